import java.io.IOException;
import java.lang.reflect.Constructor;
import java.lang.reflect.Field;
import java.lang.reflect.Method;
import java.lang.reflect.Modifier;
import java.nio.file.Files;
import java.nio.file.Path;
import java.util.Set;
import java.util.TreeSet;
import java.util.regex.Matcher;
import java.util.regex.Pattern;

/** The public face is the document's and no more. */
public final class FaceTest {
    private static final Set<String> FACE = Set.of(
        "int type(int)", "int clear()", "int door()", "int sort(int,int)", "int goer(int,int)", "int room(int,int)",
        "int now(int)", "int comes(int,int)", "int steps()", "int leaves(int)", "int lets(int)", "int undo()",
        "int spare(int)", "int ahead(int)", "int odds(int,int)", "int sees(int,int,int)", "int forget()",
        "int which()", "int look(int)", "int rate(int,int)", "int keep(int)", "int back(int)", "int count(int)",
        "long trace()");

    public static void main(String[] args) throws IOException {
        constants();
        methods();
        nestedClasses();
        String source = Files.readString(Path.of("src/main/java/WingDoor.java"));
        parts(source);
        signs(source);
        Script.end();
    }

    private static void holds(String what, boolean so) {
        Script.due("the face", what, so ? 1 : 0, 1);
    }

    private static void constants() {
        Script.due("the face", "BAD", WingDoor.BAD, -1);
        Script.due("the face", "STATE", WingDoor.STATE, -2);
        Script.due("the face", "FULL", WingDoor.FULL, -3);
        Script.due("the face", "NONE", WingDoor.NONE, -9);
        Script.due("the face", "NO", WingDoor.NO, -1000000);
        Set<String> open = new TreeSet<>();
        for (Field field : WingDoor.class.getDeclaredFields()) {
            if (!Modifier.isPrivate(field.getModifiers())) {
                open.add(field.getName());
            }
            if (Modifier.isStatic(field.getModifiers())) {
                holds("static " + field.getName() + " is final", Modifier.isFinal(field.getModifiers()));
            }
        }
        holds("no other constants than " + open, open.equals(Set.of("BAD", "STATE", "FULL", "NONE", "NO")));
    }

    private static void methods() {
        holds("public and final", Modifier.isPublic(WingDoor.class.getModifiers())
            && Modifier.isFinal(WingDoor.class.getModifiers()));
        Constructor<?>[] constructors = WingDoor.class.getDeclaredConstructors();
        holds("one constructor", constructors.length == 1 && Modifier.isPublic(constructors[0].getModifiers())
            && constructors[0].getParameterCount() == 0);
        Set<String> open = new TreeSet<>();
        Set<String> names = new TreeSet<>();
        for (Method method : WingDoor.class.getDeclaredMethods()) {
            if (Modifier.isPublic(method.getModifiers())) {
                open.add(told(method));
                names.add(method.getName());
            }
        }
        holds("the methods are " + open, open.equals(FACE));
        for (Method method : WingDoor.class.getDeclaredMethods()) {
            if (!Modifier.isPublic(method.getModifiers())) {
                holds(method.getName() + " is private", Modifier.isPrivate(method.getModifiers()));
                holds(method.getName() + " is no public name", !names.contains(method.getName()));
            }
        }
    }

    private static String told(Method method) {
        StringBuilder told = new StringBuilder(method.getReturnType().getName() + " " + method.getName() + "(");
        for (int i = 0; i < method.getParameterCount(); i++) {
            told.append(i == 0 ? "" : ",").append(method.getParameterTypes()[i].getName());
        }
        return told.append(")").toString();
    }

    private static void nestedClasses() {
        for (Class<?> each : WingDoor.class.getDeclaredClasses()) {
            int bits = each.getModifiers();
            holds(each.getName() + " is static", Modifier.isStatic(bits));
            holds(each.getName() + " is not open", !Modifier.isPublic(bits) && !Modifier.isProtected(bits));
        }
    }

    /** "Ahead of the calls .. the interface says", in the order of the document. */
    private static final String PARTS = """
        ---- the door: type clear door sort goer room now
        ---- what is done: comes steps leaves lets undo
        ---- what is best: spare ahead odds
        ---- which sort: sees forget which look
        ---- kinds, images: rate keep back count trace""";

    private static void parts(String source) {
        StringBuilder parts = new StringBuilder();
        Matcher m = Pattern.compile("    // (----.*)|    public (?:int|long) (\\w+)\\(.*").matcher(source);
        while (m.find()) {
            boolean helpers = "---- helpers".equals(m.group(1));
            parts.append(helpers ? "" : m.group(1) != null ? "\n" + m.group(1) + ":" : " " + m.group(2));
        }
        holds("the parts are" + parts, parts.toString().strip().equals(PARTS));
    }

    private static void signs(String source) {
        holds("signs 1 to 127 alone", source.chars().allMatch(c -> c > 0 && c < 128));
    }
}
