import java.io.IOException;
import java.lang.reflect.Constructor;
import java.lang.reflect.Field;
import java.lang.reflect.InvocationTargetException;
import java.lang.reflect.Method;
import java.lang.reflect.Modifier;
import java.nio.file.Files;
import java.nio.file.Path;
import java.util.ArrayList;
import java.util.Arrays;
import java.util.List;
import java.util.NoSuchElementException;
import java.util.Random;
import java.util.TreeSet;

/** The face is the document's and no more; no call throws but as told, whatever it is given; rules that a look can tell. */
public final class FaceTest {
    private static final Check CHECK = new Check();
    private static final String[] FACE = {
        "int feed(int,int,int,int,int)", "int text(int)", "int fault(int)", "int named(int,int)", "int person(int,int)",
        "int region(int,int)", "int join(int,int,int)", "int gain(int,int)", "long law(int,int)",
        "boolean canvass(int,int)", "boolean move(int,int)", "boolean decree(int,int)", "int seasons(int)",
        "int ahead(int,int,int)", "int steady(int)", "int decides(int)", "int buy(int,boolean)", "int best(int)",
        "int gaps()", "int mend(int)", "int way(int,int,int)", "int setOut(int,int)", "int live(int)",
        "int owed(int,int)", "int rests(int,int)", "int rest(int,int,int)", "int stone(int,int,int,boolean)",
        "int strike(int)", "boolean known(int)", "int had(int)", "int chance(int,int,int,int)", "int tried(int,int,int)",
        "int undo()", "int keep()", "int back()", "int count(int)"};
    private static final String[] TEXTS = {
        "",
        "region p 3 9 2;",
        "region p 1 1 0;region q 9 99 9;join q p 9;person a p 9 3;person b p 1 0;debt a 99 yard;debt b 1;tear 0;",
        "region a 1 1 9;region b 2 2 9;region c 3 3 9;region d 4 4 9;region e 5 5 9;region f 9 9 9;join a b 1;join a c 1;"
            + "join a d 1;join a e 1;join a f 1;join b c 2;join c d 3;join d e 4;join e f 5;person a a 1 1;person b a 2 2;"
            + "person c b 3 3;person d c 4 0;person e d 5 1;person f e 6 2;person g f 9 3;person h f 1 1;debt a 5 yard;"
            + "law gain 9/(scale-size)-torn*season;law yield area*scale/(3-torn);law way 9*9999*9999*9999/crowd;tear 1;"};

    public static void main(String[] args) throws ReflectiveOperationException, IOException {
        members();
        wildCalls();
        looks(Files.readString(Path.of("src/main/java/ScaleVote.java")));
        CHECK.end();
    }

    private static void members() throws ReflectiveOperationException {
        TreeSet<String> found = new TreeSet<>();
        TreeSet<String> names = new TreeSet<>();
        for (Method method : ScaleVote.class.getDeclaredMethods()) {
            if (!Modifier.isPrivate(method.getModifiers())) {
                found.add(form(method));
                names.add(method.getName());
                CHECK.due(method + " is public", 1, Modifier.isPublic(method.getModifiers()) ? 1 : 0);
                CHECK.due(method + " is of an object", 0, Modifier.isStatic(method.getModifiers()) ? 1 : 0);
            }
        }
        CHECK.due("the methods of the face: " + found, true, found.equals(new TreeSet<>(Arrays.asList(FACE))));
        List<Class<?>> classes = new ArrayList<>(Arrays.asList(ScaleVote.class.getDeclaredClasses()));
        CHECK.due("twelve classes at most", true, classes.size() <= 11);
        for (Class<?> inside : classes) {
            CHECK.due(inside + " is static", true, Modifier.isStatic(inside.getModifiers()));
            CHECK.due(inside + " isn't public", false, Modifier.isPublic(inside.getModifiers()));
        }
        classes.add(ScaleVote.class);
        for (Class<?> one : classes) {
            int fields = 0;
            for (Field field : one.getDeclaredFields()) {
                fields += Modifier.isStatic(field.getModifiers()) ? 0 : 1;
                boolean constant = !Modifier.isStatic(field.getModifiers()) || Modifier.isFinal(field.getModifiers());
                CHECK.due(field + " is final if it is static", true, constant);
                if (one == ScaleVote.class && !field.getName().equals("NONE")) {
                    CHECK.due(field + " is private", true, Modifier.isPrivate(field.getModifiers()));
                }
            }
            CHECK.due("fields of " + one, true, fields <= 20);
            for (Method method : one.getDeclaredMethods()) {
                boolean faces = one == ScaleVote.class && Modifier.isPublic(method.getModifiers());
                CHECK.due(method + " bears a name of the face", false, !faces && names.contains(method.getName()));
                CHECK.due(method + " has seven parameters at most", true, method.getParameterCount() <= 7);
            }
        }
        Constructor<?>[] made = ScaleVote.class.getDeclaredConstructors();
        CHECK.due("one constructor", 1, made.length);
        CHECK.due("it is public", true, Modifier.isPublic(made[0].getModifiers()));
        CHECK.due("the class is final", true, Modifier.isFinal(ScaleVote.class.getModifiers()));
        CHECK.due("NONE", -1, ScaleVote.class.getField("NONE").getInt(null));
        Class<?>[] thrown = ScaleVote.class.getMethod("person", int.class, int.class).getExceptionTypes();
        CHECK.due("person throws", true, Arrays.asList(thrown).equals(
                List.of(IndexOutOfBoundsException.class, NoSuchElementException.class)));
    }

    private static String form(Method method) {
        StringBuilder form = new StringBuilder(method.getReturnType() + " " + method.getName() + "(");
        for (Class<?> type : method.getParameterTypes()) {
            form.append(form.charAt(form.length() - 1) == '(' ? "" : ",").append(type);
        }
        return form.append(")").toString();
    }

    private static void wildCalls() throws ReflectiveOperationException {
        int[] wild = {-2147483648, -100, -2, -1, 0, 1, 2, 3, 4, 5, 6, 7, 8, 9, 10, 20, 24, 30, 60, 61, 99, 100, 700, 9999,
            10000, 2147483647};
        List<Method> methods = new ArrayList<>();
        for (Method method : ScaleVote.class.getDeclaredMethods()) {
            if (Modifier.isPublic(method.getModifiers())) {
                methods.add(method);
            }
        }
        methods.sort((a, b) -> form(a).compareTo(form(b)));
        Random random = new Random(1);
        for (int run = 0; run < 400; run++) {
            ScaleVote vote = Check.told(TEXTS[run % TEXTS.length]);
            for (int call = 0; call < 500; call++) {
                Method method = methods.get(random.nextInt(methods.size()));
                if (method.getName().equals("text") && random.nextInt(20) > 0) {
                    continue;
                }
                Object[] given = new Object[method.getParameterCount()];
                for (int k = 0; k < given.length; k++) {
                    int number = random.nextInt(4) == 0 ? wild[random.nextInt(wild.length)] : random.nextInt(9) - 1;
                    given[k] = method.getParameterTypes()[k] == boolean.class ? (Object) random.nextBoolean() : number;
                }
                try {
                    method.invoke(vote, given);
                } catch (InvocationTargetException e) {
                    Class<?> kind = e.getCause().getClass();
                    boolean told = method.getName().equals("person")
                            && (kind == IndexOutOfBoundsException.class || kind == NoSuchElementException.class);
                    CHECK.due(form(method) + Arrays.toString(given) + " throws " + e.getCause(), true, told);
                }
            }
        }
    }

    /** A row is made once, in a field or the constructor: the room is never given back. */
    private static void looks(String source) {
        for (String line : source.split("\n")) {
            if (line.contains("new ") && !line.trim().startsWith("*") && !line.trim().startsWith("/*")) {
                boolean field = line.matches(" {8}(private )?final .*= new .*;");
                boolean constructor = line.matches(" {8}[a-z]+ = new [A-Z][a-z]+\\([a-z]*\\);");
                CHECK.due("made in a call: " + line, true, field || constructor || line.contains("throw new "));
            }
            CHECK.due("a long line: " + line, true, line.length() <= 140 || line.contains("String WORDS"));
            CHECK.due("a tab: " + line, false, line.contains("\t"));
        }
        String[] never = {"catch", "finally", "->", "::", "Exact(", "synchronized", "assert ", "System.out", "instanceof", "lambda",
            "double ", "float ", "Object", "getClass", "currentTime", "nanoTime", "import java.util.Random"};
        for (String word : never) {
            CHECK.due("'" + word + "' in the source", false, source.contains(word));
        }
        int lines = -1000;
        for (String line : source.split("\n")) {
            lines = line.matches("( {4}| {8})(private |public )?(static )?[a-zA-Z\\[\\]]+ [a-zA-Z]+\\(.*\\{") ? 0 : lines + 1;
            CHECK.due("a long method up to: " + line, true, lines <= 60);
            lines = line.equals("    }") || line.equals("        }") ? -1000 : lines;
        }
    }
}
