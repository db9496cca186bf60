import java.io.IOException;
import java.lang.management.ManagementFactory;
import java.lang.reflect.Constructor;
import java.lang.reflect.Field;
import java.lang.reflect.Method;
import java.lang.reflect.Modifier;
import java.nio.file.Files;
import java.nio.file.Path;
import java.util.Arrays;
import java.util.List;
import java.util.Set;
import java.util.TreeSet;
import java.util.regex.Matcher;
import java.util.regex.Pattern;

/** What of LANGUAGE.md can be seen from outside: the face, forbidden words, sizes, and that calls make no objects. */
public final class LanguageTest {
    private static final String[] FACE = {"int knife(int,int,int,int)", "int ofKnife(int,int)",
        "long lies(int,int,int,int)", "int comes(int,int,int)", "int sticks(int,int)", "int hand(int,int,int,int)",
        "int weight(int,int,int)", "int stage(int)", "long likely(int,int,int,int,int)", "int best(int,int,int)",
        "int board(int,int,int,int)", "int ofCell(int)", "long hurts(int,int,boolean,int)",
        "long holds(int,int,int,int,int,int)", "int allowed(int,int)", "int nearest(int,int)",
        "int order(int,int,int,int,int,int)", "int turned(int,int,int)", "int when(int,int,int,int,int,int,int,int)",
        "int mark(int,int)", "int back(int)", "int guessed(int,int)", "int tells(int,int)",
        "long chalk(int,int,int,int,int,int)", "long byChalk(int,int,int,int,int,int)", "int sheet(int,int,int)",
        "int lose(int)", "int put(int,int,int)", "long cell(int,int,int)", "int copy(int,int,int,int,int)",
        "int tell(int)", "int whet(int)", "int as(int,int)", "int trace()", "int fault()", "int many(int)"};
    private static final String[] CONSTANTS = {"UNKNOWN", "OUTSIDE", "STATE", "FULL", "NONE", "LOST"};
    private static final String[] FORBIDDEN = {"\\bthrow\\b", "\\bthrows\\b", "\\btry\\b", "\\bcatch\\b", "\\bfinally\\b",
        "\\bsynchronized\\b", "\\bassert\\b", "\\bimport\\b", "\\bpackage\\b", "\\bvar\\b", "\\byield\\b", "\\bvolatile\\b",
        "\\btransient\\b", "\\bnative\\b", "->", "::", "@", "Exact\\b", "\\bhashCode\\b", "\\btoString\\b",
        "\\bequals\\b", "\\bObject\\b", "\\bSystem\\.(?!arraycopy\\b)", "\\bThread\\b", "\\bstatic\\s*\\{",
        "[^\\x00-\\x7F]"};

    private LanguageTest() {
    }

    public static void main(String[] args) throws IOException {
        face();
        insides();
        words();
        room();
        Check.end();
    }

    private static void face() {
        Check.due("public and final", Modifier.toString(KnifeBoard.class.getModifiers()).equals("public final"));
        Set<String> shown = new TreeSet<>();
        for (Method method : KnifeBoard.class.getDeclaredMethods()) {
            if (method.isSynthetic() || Modifier.isPrivate(method.getModifiers())) continue;
            shown.add(signature(method));
        }
        Check.due("methods of the face: " + shown, shown.equals(new TreeSet<>(Arrays.asList(FACE))));
        Constructor<?>[] constructors = KnifeBoard.class.getDeclaredConstructors();
        Check.due("one constructor", constructors.length == 1 && Modifier.isPublic(constructors[0].getModifiers()));
        Set<String> constants = new TreeSet<>();
        for (Field field : KnifeBoard.class.getDeclaredFields()) {
            if (!Modifier.isPrivate(field.getModifiers())) constants.add(field.getName());
        }
        Check.due("constants of the face", constants.equals(new TreeSet<>(Arrays.asList(CONSTANTS))));
    }

    private static String signature(Method method) {
        StringBuilder text = new StringBuilder();
        for (Class<?> type : method.getParameterTypes()) text.append(text.length() == 0 ? "" : ",").append(type);
        String marked = Modifier.toString(method.getModifiers()).equals("public") ? "" : "not just public ";
        return marked + method.getReturnType() + " " + method.getName() + "(" + text + ")";
    }

    private static void insides() {
        List<Class<?>> inside = Arrays.asList(KnifeBoard.class.getDeclaredClasses());
        Check.due("some twelve classes", inside.size() < 12);
        look(KnifeBoard.class);
        for (Class<?> type : inside) {
            Check.due(type + " is static", Modifier.isStatic(type.getModifiers()));
            Check.due(type + " has none inside", type.getDeclaredClasses().length == 0);
            look(type);
        }
    }

    private static void look(Class<?> type) {
        int kept = 0;
        for (Field field : type.getDeclaredFields()) {
            if (field.isSynthetic()) continue;
            boolean isStatic = Modifier.isStatic(field.getModifiers());
            if (!isStatic) kept++;
            else Check.due(field + " is final", Modifier.isFinal(field.getModifiers()));
        }
        Check.due(type + " has some twenty fields", kept <= 20);
        for (Method method : type.getDeclaredMethods()) {
            if (method.isSynthetic() || Modifier.isPublic(method.getModifiers())) continue;
            Check.due(method + " takes seven at most", method.getParameterCount() <= 7);
            for (String shown : FACE) {
                String name = shown.substring(shown.indexOf(' ') + 1, shown.indexOf('('));
                Check.due(method + " has a name of the face", !method.getName().equals(name));
            }
        }
    }

    private static void words() throws IOException {
        String source = Files.readString(Path.of("src/main/java/KnifeBoard.java"));
        String code = source.replaceAll("(?s)/\\*.*?\\*/", "").replaceAll("//[^\n]*", "");
        for (String word : FORBIDDEN) {
            Matcher matcher = Pattern.compile(word).matcher(code);
            Check.due("no " + word, !matcher.find());
        }
        int begun = 0;
        String[] lines = source.split("\n");
        for (int line = 0; line < lines.length; line++) {
            if (lines[line].matches("(    |        )[a-zA-Z].*\\) \\{")) begun = line;
            if (lines[line].matches("(    |        )\\}")) Check.due("short until line " + line, line - begun <= 60);
        }
        int made = code.split("\\bnew (Knife|Hatchet|Twin)\\(", -1).length - 1;
        Check.due("made where knives come", made == 3);
    }

    /** After its making and its knives an object makes nothing more, so that a run stays in its room. */
    private static void room() {
        KnifeBoard x = new KnifeBoard();
        for (int k = 0; k < 6; k++) x.knife(2, 9, 24, 5);
        callAll(x, 50);
        long before = allocated();
        callAll(x, 200);
        long bytes = allocated() - before;
        Check.due("200 rounds made " + bytes + " bytes", bytes < 100000);
    }

    private static long allocated() {
        return ((com.sun.management.ThreadMXBean) ManagementFactory.getThreadMXBean())
                .getThreadAllocatedBytes(Thread.currentThread().getId());
    }

    private static void write(KnifeBoard x, String text) {
        x.sheet(0, 2, 80);
        for (int i = 0; i < text.length(); i++) x.put(0, i, text.charAt(i));
    }

    private static void callAll(KnifeBoard x, int rounds) {
        for (int round = 0; round < rounds; round++) {
            write(x, "h12345;u12345;a12345;t1");
            x.hand(0, 2, 0, 23);
            write(x, "b66;wwwwww;wxxxxw;wxyyxw;wxyyxw;wxxxxw;wwwwww");
            x.board(0, 2, 0, 45);
            x.sheet(1, 1, 80);
            for (int i = 0; i < 6; i++) x.put(1, i, i);
            for (int q = -1; q < 6; q++) x.order(round, 1, 1, 0, 6, q);
            x.mark(round % 40 + 1, 0);
            x.tells(round % 6, 0);
            x.guessed(round % 6, 1);
            x.back(1);
            x.best(round % 6, 3, 0);
            x.when(0, 40, 14, 59, 60, 59, 1, round);
            x.allowed(500, 5);
            x.nearest(500, 5);
            x.holds(0, 3, 40, 7, 9, 1);
            x.chalk(1, 1, 0, 40, 1, 1);
            x.byChalk(7, 1, 1, 0, 40, 1);
            x.copy(1, 0, 1, 3, 70);
            x.cell(1, 5, 1);
            x.tell(round % 6);
            x.whet(round % 6);
            x.as(0, 1);
            x.lose(1);
        }
    }
}
