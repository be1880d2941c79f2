import java.lang.reflect.Constructor;
import java.lang.reflect.Field;
import java.lang.reflect.Method;
import java.lang.reflect.Modifier;
import java.util.Arrays;
import java.util.Map;
import java.util.Set;
import java.util.TreeMap;
import java.util.TreeSet;

/** The public face, and the rules of LANGUAGE.md that the compiled class shows. */
public final class FaceTest {
    private static final String[] METHODS = {
        "void clearAll[]", "int push[int, int, int]", "int define[int]", "int addSubjectChar[int]",
        "void clearSubject[]", "void clearVars[]", "int match[int, boolean]", "int status[int]",
        "int varLength[int]", "char varChar[int, int]", "int cursorVar[int]", "int patternRoot[int]",
        "int nodeField[int, int]", "int stackEntry[int]", "char subjectChar[int]"};

    private static final String CONSTANTS =
        "POOL=32 STACK=16 "
        + "K_LIT=1 K_EMPTY=2 K_FAIL=3 K_LEN=4 K_POS=5 K_RPOS=6 K_ANY=7 K_SPAN=8 K_BREAK=9 K_ARB=10 "
        + "K_CURSOR=11 K_DEFER=12 K_ARBNO=13 K_FENCE=14 K_IMM=15 K_COND=16 K_CAT=17 K_ALT=18 "
        + "R_FAILED=0 R_MATCHED=1 R_OUT_OF_STEPS=2 R_NONE=3 "
        + "E_KIND=-1 E_ARG=-2 E_UNDERFLOW=-3 E_POOL_FULL=-4 E_STACK_FULL=-5 E_UNDEFINED=-6 "
        + "E_SUBJECT_FULL=-7 F_KIND=0 F_A=1 F_B=2 F_LEFT=3 F_RIGHT=4 "
        + "S_RESULT=0 S_START=1 S_END=2 S_NODES=3 S_STACK=4 S_SUBJECT=5";

    public static void main(String[] args) throws Exception {
        Class<?> face = SnobolMatcher.class;
        Check.due("class is public and final", face.getModifiers(), Modifier.PUBLIC | Modifier.FINAL);
        Check.due("nested classes", face.getDeclaredClasses().length, 0);
        constructors(face);
        methods(face);
        fields(face);
        Check.finish();
    }

    private static void constructors(Class<?> face) {
        Constructor<?>[] all = face.getDeclaredConstructors();
        Check.due("constructors", all.length, 1);
        Check.due("constructor is public", all[0].getModifiers(), Modifier.PUBLIC);
        Check.due("constructor takes", Arrays.toString(all[0].getParameterTypes()), "[int, int, int]");
    }

    private static void methods(Class<?> face) {
        Set<String> seen = new TreeSet<>();
        Set<String> publicNames = new TreeSet<>();
        for (Method method : face.getDeclaredMethods()) {
            if (method.getModifiers() == Modifier.PUBLIC) {
                publicNames.add(method.getName());
                seen.add(method.getReturnType() + " " + method.getName()
                    + Arrays.toString(method.getParameterTypes()));
            } else {
                Check.due(method + " is private", method.getModifiers() & Modifier.PRIVATE, Modifier.PRIVATE);
            }
            Check.due(method + " has at most 7 parameters", method.getParameterCount() <= 7 ? 1 : 0, 1);
        }
        for (Method method : face.getDeclaredMethods()) {
            if (Modifier.isPrivate(method.getModifiers())) {
                Check.due(method + " bears a public name", publicNames.contains(method.getName()) ? 1 : 0, 0);
            }
        }
        Check.due("public methods", seen.toString(), new TreeSet<>(Arrays.asList(METHODS)).toString());
    }

    private static void fields(Class<?> face) throws Exception {
        Map<String, String> want = new TreeMap<>();
        for (String pair : CONSTANTS.split(" ")) {
            want.put(pair.split("=")[0], pair.split("=")[1]);
        }
        Map<String, String> got = new TreeMap<>();
        int own = 0;
        for (Field field : face.getDeclaredFields()) {
            int modifiers = field.getModifiers();
            if (Modifier.isStatic(modifiers)) {
                Check.due(field + " is final", Modifier.isFinal(modifiers) ? 1 : 0, 1);
                Check.due(field + " type", field.getType().toString(), "int");
            } else {
                own++;
                Check.due(field + " is private", Modifier.isPrivate(modifiers) ? 1 : 0, 1);
            }
            if (Modifier.isPublic(modifiers)) {
                got.put(field.getName(), String.valueOf(field.get(null)));
            } else {
                Check.due(field + " is private", Modifier.isPrivate(modifiers) ? 1 : 0, 1);
            }
        }
        Check.due("public constants", got.toString(), want.toString());
        Check.due("at most 40 fields beside the constants", own <= 40 ? 1 : 0, 1);
    }
}
