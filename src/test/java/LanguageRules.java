import java.io.IOException;
import java.io.PrintWriter;
import java.io.StringWriter;
import java.lang.reflect.Field;
import java.lang.reflect.Method;
import java.lang.reflect.Modifier;
import java.nio.file.Files;
import java.nio.file.Path;
import java.util.ArrayList;
import java.util.HashMap;
import java.util.List;
import java.util.Map;
import java.util.Set;
import java.util.TreeSet;
import java.util.regex.Matcher;
import java.util.regex.Pattern;
import java.util.spi.ToolProvider;

/** The face as the document writes it, and what of LANGUAGE.md can be seen in the class files and the source. */
public final class LanguageRules {
    private static final String[] FACE = {
        "int appendText(int,int,int,int,int) IllegalStateException",
        "int truncateText(int) IllegalArgumentException",
        "int parseSystem()", "int errorCode()", "int errorPosition()", "int processCount()", "int frameCount()",
        "int slotCount()", "int epoch()",
        "int readPage(int,int) IndexOutOfBoundsException IllegalStateException",
        "int writePage(int,int,int) IndexOutOfBoundsException IllegalStateException",
        "int setPolicy(int) IllegalArgumentException",
        "int startBarrier(int) IllegalArgumentException IllegalStateException",
        "int writeBarrier(int) IllegalArgumentException IllegalStateException",
        "int commitBarrier() IllegalStateException UnsupportedOperationException",
        "int abandonBarrier() IllegalStateException", "int crash()",
        "int rollback(int) IndexOutOfBoundsException NoSuchElementException IllegalStateException",
        "int evictPage(int,int) IndexOutOfBoundsException UnsupportedOperationException IllegalStateException",
        "int runScript()", "int pageCount(int) IndexOutOfBoundsException", "int kindOf(int) IndexOutOfBoundsException",
        "int peek(int,int) IndexOutOfBoundsException",
        "float peekFloat(int,int) IndexOutOfBoundsException UnsupportedOperationException",
        "int pageState(int,int) IndexOutOfBoundsException", "int frameOf(int,int) IndexOutOfBoundsException",
        "int slotOf(int,int) IndexOutOfBoundsException", "int frameOwner(int) IndexOutOfBoundsException",
        "int frameTime(int,int) IndexOutOfBoundsException NoSuchElementException IllegalArgumentException",
        "int victim()", "int residentPages(int) IndexOutOfBoundsException",
        "int dirtyPages(int) IndexOutOfBoundsException", "int slotUse(int) IndexOutOfBoundsException",
        "int slotOwner(int) IndexOutOfBoundsException", "int slotStamp(int) IndexOutOfBoundsException",
        "int slotValue(int) IndexOutOfBoundsException", "int nextSlot()", "int freeSlots()", "int sharedSlots()",
        "int longestRun()", "int freeSlot(int) IndexOutOfBoundsException",
        "int twins(int) IndexOutOfBoundsException NoSuchElementException", "int barrierSet()", "int pendingPages()",
        "int pendingPage(int) IndexOutOfBoundsException", "int checkpointEpoch(int) IndexOutOfBoundsException",
        "int checkpointSlot(int,int) IndexOutOfBoundsException NoSuchElementException",
        "int checkpointValue(int,int) IndexOutOfBoundsException NoSuchElementException",
        "int wouldWrite(int) IllegalArgumentException",
        "int wouldFree(int) IllegalArgumentException IllegalStateException",
        "int bestBarrier(int) IllegalArgumentException IllegalStateException",
        "int lostPages(int) IndexOutOfBoundsException",
        "int barrierLog(int,int) IndexOutOfBoundsException IllegalArgumentException",
        "int recentAccess(int) IndexOutOfBoundsException", "int faultsWith(int,int) IllegalArgumentException",
        "int leastFrames(int) IllegalArgumentException NoSuchElementException",
        "int workingSet(int) IllegalArgumentException", "int hottestPage() NoSuchElementException",
        "int hitRatioBits() ArithmeticException", "int total(int) IllegalArgumentException", "int writeReport()",
        "int reportByte(int) IndexOutOfBoundsException", "int undo() IllegalStateException", "int undoDepth()"};

    private static final Pattern LIBRARY = Pattern.compile(
            "java/lang/(Object|(IllegalState|IllegalArgument|IndexOutOfBounds|Arithmetic|UnsupportedOperation)Exception)"
            + "\\.\"<init>\".*|java/util/NoSuchElementException\\.\"<init>\".*"
            + "|java/lang/String\\.(length|charAt|isEmpty|equals|substring):.*"
            + "|java/lang/StringBuilder\\.(\"<init>\":\\(\\)|append:\\((C|I|Ljava/lang/String;)\\)|charAt|setLength|length).*"
            + "|java/lang/(Integer|Long|Math)\\.\\w+:\\([IJ]*\\)[IJ]|java/lang/System\\.arraycopy:.*");

    private static int wrong;

    public static void main(String[] args) throws IOException {
        face();
        names();
        String code = disassembled();
        library(code);
        depth(code);
        source(Files.readString(Path.of("src/main/java/CheckpointSwap.java")));
        System.out.println("rules of the language: " + wrong + " broken");
        if (wrong != 0) {
            System.exit(1);
        }
    }

    private static void demand(boolean holds, String what) {
        if (!holds) {
            wrong++;
            System.out.println(what);
        }
    }

    private static void face() {
        Set<String> found = new TreeSet<>();
        for (Method method : CheckpointSwap.class.getDeclaredMethods()) {
            if (!Modifier.isPrivate(method.getModifiers())) {
                demand(method.getModifiers() == Modifier.PUBLIC, "rule 1: " + method);
                found.add(signature(method));
            }
        }
        demand(found.equals(new TreeSet<>(List.of(FACE))), "rule 1: the face is " + found);
        demand(FACE.length == 64, "the document's face has 64 methods");
        demand(Modifier.isFinal(CheckpointSwap.class.getModifiers()), "rule 1: the class is final");
        demand(CheckpointSwap.class.getConstructors().length == 1, "rule 1: one constructor");
        for (Field field : CheckpointSwap.class.getDeclaredFields()) {
            boolean isPrivate = Modifier.isPrivate(field.getModifiers());
            demand(isPrivate || field.getName().equals("NONE"), "rule 1: " + field);
        }
    }

    private static String signature(Method method) {
        StringBuilder text = new StringBuilder(method.getReturnType() + " " + method.getName() + "(");
        for (Class<?> type : method.getParameterTypes()) {
            text.append(text.charAt(text.length() - 1) == '(' ? "" : ",").append(type);
        }
        text.append(")");
        for (Class<?> type : method.getExceptionTypes()) {
            text.append(" ").append(type.getSimpleName());
        }
        return text.toString();
    }

    private static List<Class<?>> classes() {
        List<Class<?>> all = new ArrayList<>(List.of(CheckpointSwap.class));
        all.addAll(List.of(CheckpointSwap.class.getDeclaredClasses()));
        return all;
    }

    private static void names() {
        Set<String> publicNames = new TreeSet<>();
        for (Method method : CheckpointSwap.class.getMethods()) {
            publicNames.add(method.getName());
        }
        demand(classes().size() <= 12, "rule 11: twelve classes");
        for (Class<?> each : classes()) {
            int fields = 0;
            for (Field field : each.getDeclaredFields()) {
                boolean isStatic = Modifier.isStatic(field.getModifiers());
                fields += isStatic ? 0 : 1;
                demand(!isStatic || Modifier.isFinal(field.getModifiers()), "rule 5: " + field);
                demand(!isStatic || field.getType() == int.class || field.getType() == int[].class, "rule 5: " + field);
            }
            demand(fields <= 20, "rule 11: twenty fields in " + each);
            for (Method method : each.getDeclaredMethods()) {
                boolean ofFace = each == CheckpointSwap.class && Modifier.isPublic(method.getModifiers());
                demand(ofFace || !publicNames.contains(method.getName()), "rule 1: the name of " + method);
                demand(method.getParameterCount() <= 7, "rule 11: the parameters of " + method);
            }
        }
    }

    private static String disassembled() {
        ToolProvider javap = ToolProvider.findFirst("javap").orElseThrow();
        StringWriter out = new StringWriter();
        List<String> arguments = new ArrayList<>(List.of("-p", "-c", "-cp", System.getProperty("java.class.path")));
        classes().forEach(each -> arguments.add(each.getName()));
        javap.run(new PrintWriter(out), new PrintWriter(out), arguments.toArray(new String[0]));
        return out.toString();
    }

    private static void library(String code) {
        Matcher call = Pattern.compile("// (?:Interface)?Method (java/\\S+)").matcher(code);
        int calls = 0;
        while (call.find()) {
            calls++;
            demand(LIBRARY.matcher(call.group(1)).matches(), "rule 4: " + call.group(1));
        }
        demand(calls > 20, "calls of the library were looked at");
        Matcher use = Pattern.compile("// (?:Field|class) \"?(\\[*L?java/\\S+)").matcher(code);
        while (use.find()) {
            boolean fits = use.group(1).matches("java/(lang|util)/\\w+Exception|java/lang/StringBuilder");
            demand(fits, "rule 4: " + use.group(1));
        }
        demand(!code.contains("invokedynamic"), "rule 2 or 10: no lambda, no joining by +");
        demand(!code.contains("Exception table"), "no catch");
        Matcher division = Pattern.compile("([^\n]*)\n[^\n]*: (?:i|l)(?:div|rem)\\b").matcher(code);
        while (division.find()) {
            boolean constant = division.group(1).matches(".*: ([bs]ipush +[1-9]\\d*|iconst_[1-5])\\s*");
            demand(constant, "rule 7: a divisor that is no constant: " + division.group(1));
        }
    }

    /** The longest chain of calls, the call of the face itself counted. */
    private static void depth(String code) {
        Map<String, Set<String>> calls = new HashMap<>();
        String owner = "";
        String method = "";
        for (String line : code.split("\n")) {
            Matcher type = Pattern.compile("^(?:public )?(?:final )?class (\\S+) .*\\{").matcher(line);
            Matcher head = Pattern.compile("^  (?! ).*?([\\w$]+)\\(.*\\).*;$").matcher(line);
            Matcher call = Pattern.compile("// Method (?:([\\w$]+)\\.)?\"?([\\w$<>]+)\"?:").matcher(line);
            if (type.find()) {
                owner = type.group(1);
            } else if (head.find()) {
                method = owner + "." + (head.group(1).equals(owner) ? "<init>" : head.group(1));
                calls.computeIfAbsent(method, k -> new TreeSet<>());
            } else if (call.find()) {
                String target = call.group(1) == null ? owner : call.group(1);
                calls.get(method).add(target + "." + call.group(2));
            }
        }
        demand(calls.size() > 100, "methods were looked at");
        for (Method each : CheckpointSwap.class.getMethods()) {
            int deep = deepest(calls, "CheckpointSwap." + each.getName(), 0);
            demand(deep <= 8, "rule 11: " + each.getName() + " goes " + deep + " deep");
        }
        demand(deepest(calls, "CheckpointSwap.runScript", 0) > 4, "chains of calls were looked at");
    }

    private static int deepest(Map<String, Set<String>> calls, String method, int above) {
        if (!calls.containsKey(method) || above > 30) {
            return above;
        }
        int deepest = above + 1;
        for (String each : calls.get(method)) {
            deepest = Math.max(deepest, deepest(calls, each, above + 1));
        }
        return deepest;
    }

    private static void source(String text) {
        String bare = text.replaceAll("(?s)/\\*.*?\\*/", "").replaceAll("//[^\n]*", "").replaceAll("\"[^\"\n]*\"", "\"\"");
        String[] banned = {"\\bcatch\\b", "\\bfinally\\b", "\\bsynchronized\\b", "\\bassert\\b", "->", "::", "\\bFloat\\b",
            "\\bDouble\\b", "\\bprotected\\b", "\\bpackage\\b", "\\bvar\\b", "Exact\\b", "\\binstanceof\\b"};
        for (String each : banned) {
            demand(!Pattern.compile(each).matcher(bare).find(), "the source has " + each);
        }
        demand(text.chars().allMatch(c -> c < 128), "rule 4: signs above 127");
        methodLengths(text.split("\n"));
    }

    private static void methodLengths(String[] lines) {
        Pattern head = Pattern.compile("( {4}| {8})((public|private|static|final) )*(void|int|float|boolean|int\\[]) \\w+\\(.*");
        int methods = 0;
        for (int k = 0; k < lines.length; k++) {
            Matcher matcher = head.matcher(lines[k]);
            if (matcher.matches()) {
                int end = k;
                while (!lines[end].equals(matcher.group(1) + "}")) {
                    end++;
                }
                methods++;
                demand(end - k <= 60, "rule 11: a long method at line " + (k + 1));
            }
        }
        demand(methods > 150, "methods were looked at: " + methods);
    }
}
