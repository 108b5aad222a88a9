import java.lang.reflect.Constructor;
import java.lang.reflect.Field;
import java.lang.reflect.Method;
import java.lang.reflect.Modifier;
import java.nio.file.Files;
import java.nio.file.Path;
import java.util.Arrays;
import java.util.Comparator;
import java.util.Map;
import java.util.Set;
import java.util.TreeMap;
import java.util.TreeSet;
import java.util.regex.Matcher;
import java.util.regex.Pattern;

/** The face of the document, the rules of ../shared/LANGUAGE.md that can be seen, and calls of any arguments. */
public final class FormTest {
    private static final String[] FACE = {
        "write 1", "wipe 0", "fault 0", "lay 0", "name 2", "sign 2", "type 1", "untype 0", "roll 0", "word 1",
        "pick 1", "forget 1", "drop 1", "rename 2", "worth 3", "score 1", "list 1", "best 2", "ways 1", "passes 1",
        "asked 1", "brief 1", "pair 2", "keep 0", "back 0", "count 1"};
    private static int wrong = 0;

    public static void main(String[] args) throws Exception {
        face();
        nestedClasses();
        String source = Files.readString(Path.of("src/main/java/NameSeeker.java"));
        source(source);
        methods(source.replaceAll("(?s)/\\*.*?\\*/", "").replaceAll("//[^\n]*", ""));
        anyArguments();
        System.out.println(wrong == 0 ? "the form is as due" : wrong + " faults of form");
        if (wrong != 0) {
            System.exit(1);
        }
    }

    private static void must(boolean holds, String what) {
        if (!holds) {
            wrong++;
            System.out.println("not so: " + what);
        }
    }

    private static void face() throws Exception {
        must(Modifier.isFinal(NameSeeker.class.getModifiers()), "the class is final");
        Set<String> publicOnes = new TreeSet<>();
        Set<String> privateNames = new TreeSet<>();
        for (Method method : NameSeeker.class.getDeclaredMethods()) {
            if (Modifier.isPublic(method.getModifiers())) {
                publicOnes.add(method.getName() + " " + method.getParameterCount());
                must(method.getReturnType() == int.class, method + " answers an int");
            } else if (!method.isSynthetic()) {
                must(Modifier.isPrivate(method.getModifiers()), method + " is private");
                privateNames.add(method.getName());
            }
        }
        must(publicOnes.equals(new TreeSet<>(Set.of(FACE))), "the public methods are those of the document: " + publicOnes);
        for (String one : FACE) {
            must(!privateNames.contains(one.split(" ")[0]), "no private method has a public one's name: " + one);
        }
        Constructor<?>[] constructors = NameSeeker.class.getDeclaredConstructors();
        must(constructors.length == 1 && constructors[0].getParameterCount() == 0, "one constructor");
        Set<String> constants = new TreeSet<>();
        int fields = 0;
        for (Field field : NameSeeker.class.getDeclaredFields()) {
            boolean isStatic = Modifier.isStatic(field.getModifiers());
            if (Modifier.isPublic(field.getModifiers())) {
                constants.add(field.getName() + field.getInt(null));
            } else {
                must(Modifier.isPrivate(field.getModifiers()), field + " is private");
            }
            must(!isStatic || Modifier.isFinal(field.getModifiers()), field + " is final");
            fields += isStatic ? 0 : 1;
        }
        must(constants.equals(new TreeSet<>(Set.of("BAD-1", "NO-2", "FULL-3", "NONE-4"))), "the constants: " + constants);
        must(fields <= 20, "some twenty fields: " + fields);
    }

    private static void nestedClasses() {
        Class<?>[] nested = NameSeeker.class.getDeclaredClasses();
        must(nested.length <= 11, "some twelve classes: " + nested.length);
        for (Class<?> one : nested) {
            must(Modifier.isStatic(one.getModifiers()), one + " is static");
            must(!Modifier.isPublic(one.getModifiers()) && !Modifier.isProtected(one.getModifiers()), one + " is not public");
            for (Method method : one.getDeclaredMethods()) {
                must(!Set.of("equals", "hashCode", "toString").contains(method.getName()), method + " is not our own");
            }
        }
    }

    private static void source(String source) {
        String code = source.replaceAll("(?s)/\\*.*?\\*/", "").replaceAll("//[^\n]*", "");
        for (String banned : new String[] {"\\bthrows?\\b", "\\btry\\b", "\\bcatch\\b", "\\bsynchronized\\b", "\\bassert\\b", "\\bimport\\b",
            "\\bpackage\\b", "->", "::", "\\bSystem\\.(?!arraycopy)", "\\bThread\\b", "\\bRandom\\b", "\\bMath\\.\\w*Exact\\b", "\\bstatic\\s*\\{",
            "while \\(true\\)", "\\bfloat\\b", "\\bdouble\\b"}) {
            Matcher matcher = Pattern.compile(banned).matcher(code);
            must(!matcher.find(), "no " + banned + " in the program");
        }
        must(source.chars().allMatch(sign -> sign < 128), "signs 1 to 127 alone");
    }

    /** Methods are short, make nothing, do not call themselves, go at most eight deep. */
    private static void methods(String code) {
        Map<String, Set<String>> calls = new TreeMap<>();
        Pattern method = Pattern.compile("(?m)^( +)(?:(?:public|private|static) )*([\\w\\[\\]]+ )?(\\w+)\\(([^()]*)\\) \\{\\n((?:.*\\n)*?)\\1\\}");
        Matcher matcher = method.matcher(code);
        while (matcher.find()) {
            boolean isConstructor = matcher.group(2) == null;
            String name = matcher.group(3);
            String body = matcher.group(5);
            must(body.split("\n").length <= 60, name + " has some sixty lines");
            must(matcher.group(4).split(",").length <= 7, name + " has seven parameters");
            must(isConstructor || !body.contains("new "), name + " makes no object");
            Set<String> called = calls.computeIfAbsent(name, each -> new TreeSet<>());
            Matcher call = Pattern.compile("\\b(\\w+)\\(").matcher(body);
            while (call.find()) {
                called.add(call.group(1));
            }
        }
        for (String one : FACE) {
            must(calls.containsKey(one.split(" ")[0]), "the methods that were read have " + one);
        }
        for (String name : calls.keySet()) {
            must(deepest(calls, name, 0) <= 8, name + " goes at most eight deep");
        }
    }

    /** How many methods stand open at once below this one, itself too; methods of one name are taken for one. */
    private static int deepest(Map<String, Set<String>> calls, String name, int above) {
        int most = 0;
        if (calls.containsKey(name) && above <= 8) {
            for (String called : calls.get(name)) {
                most = Math.max(most, deepest(calls, called, above + 1));
            }
            most++;
        }
        return most;
    }

    /** 512 calls and more with numbers of every size: none may throw, and a wrong one changes no count but HITS and MISSES. */
    private static void anyArguments() throws Exception {
        int[] odd = {Integer.MIN_VALUE, Integer.MIN_VALUE + 1, -65536, -5, -2, -1, 0, 1, 2, 3, 5, 6, 7, 8, 11, 12, 13, 31, 32, 64, 97, 122,
            126, 127, 128, 199, 200, 201, 65536 + 97, Integer.MAX_VALUE - 1, Integer.MAX_VALUE};
        NameSeeker seeker = new NameSeeker();
        Method[] methods = NameSeeker.class.getDeclaredMethods();
        Arrays.sort(methods, Comparator.comparing(Method::getName));
        int turn = 0;
        for (int round = 0; round < 200; round++) {
            for (Method method : methods) {
                if (!Modifier.isPublic(method.getModifiers())) {
                    continue;
                }
                Object[] arguments = new Object[method.getParameterCount()];
                for (int i = 0; i < arguments.length; i++) {
                    turn = (turn * 7919 + 12345) % 65521;
                    arguments[i] = odd[turn % odd.length];
                }
                String before = counts(seeker);
                int answer = (Integer) method.invoke(seeker, arguments);
                must(answer >= NameSeeker.NONE, method.getName() + " answers " + answer);
                must(answer >= 0 || before.equals(counts(seeker)), method.getName() + " changed the counts for " + answer);
            }
        }
    }

    private static String counts(NameSeeker seeker) {
        StringBuilder counts = new StringBuilder();
        for (int what = 0; what <= 12; what++) {
            boolean isOfSought = what == 7 || what == 8;
            counts.append(isOfSought ? 0 : seeker.count(what)).append(' ');
        }
        return counts.toString();
    }
}
