import java.io.IOException;
import java.lang.reflect.Constructor;
import java.lang.reflect.Field;
import java.lang.reflect.Method;
import java.lang.reflect.Modifier;
import java.lang.reflect.Parameter;
import java.nio.file.Files;
import java.nio.file.Path;
import java.util.Set;
import java.util.TreeSet;

/** The class's face is the document's "The public face", no less and no more; an object serves 512 calls. */
public final class FaceTest {
    private static final int CALLS = 512;

    public static void main(String[] args) throws IOException, IllegalAccessException {
        faceIsTheDocuments();
        manyCalls();
        Due.close("FaceTest");
    }

    private static void faceIsTheDocuments() throws IOException, IllegalAccessException {
        Set<String> told = toldFace();
        Set<String> made = madeFace();
        Due.is("public and final", StonesOver.class.getModifiers(), Modifier.PUBLIC | Modifier.FINAL);
        Due.is("the document tells 5 constants, a constructor, 40 methods", told.size(), 5 + 1 + 40);
        for (String member : told) {
            Due.is("is there: " + member, made.contains(member) ? 1 : 0, 1);
        }
        for (String member : made) {
            Due.is("is asked for: " + member, told.contains(member) ? 1 : 0, 1);
        }
    }

    /** The members of the document's block of Java, such as "int act(int,int,int)" and "int BAD = -1". */
    private static Set<String> toldFace() throws IOException {
        Set<String> told = new TreeSet<>();
        String document = Files.readString(Path.of("../shared/DOC.md"));
        int open = document.indexOf('{', document.indexOf("public final class StonesOver {"));
        String block = document.substring(open + 1, document.indexOf("\n}", open));
        for (String member : block.split(";")) {
            String one = member.replaceAll("\\s+", " ").trim();
            if (one.startsWith("public static final int ")) {
                for (String constant : one.substring("public static final int ".length()).split(", ")) {
                    told.add("int " + constant);
                }
            } else if (one.startsWith("public ")) {
                told.add(one.substring("public ".length()).replaceAll("(int|long) \\w+(?=[,)])", "$1").replace(", ", ","));
            }
        }
        return told;
    }

    private static Set<String> madeFace() throws IllegalAccessException {
        Set<String> made = new TreeSet<>();
        for (Field field : StonesOver.class.getDeclaredFields()) {
            if (!Modifier.isPrivate(field.getModifiers())) {
                boolean isConstant = Modifier.isStatic(field.getModifiers()) && Modifier.isFinal(field.getModifiers());
                made.add(field.getType() + " " + field.getName() + (isConstant ? " = " + field.getInt(null) : ""));
            }
        }
        for (Constructor<?> constructor : StonesOver.class.getDeclaredConstructors()) {
            made.add("StonesOver" + parameters(constructor.getParameters()));
        }
        for (Method method : StonesOver.class.getDeclaredMethods()) {
            if (!Modifier.isPrivate(method.getModifiers())) {
                Due.is("public and nothing else: " + method.getName(), method.getModifiers(), Modifier.PUBLIC);
                made.add(method.getReturnType() + " " + method.getName() + parameters(method.getParameters()));
            }
        }
        return made;
    }

    private static String parameters(Parameter[] parameters) {
        StringBuilder b = new StringBuilder("(");
        for (Parameter each : parameters) {
            b.append(b.length() > 1 ? "," : "").append(each.getType());
        }
        return b.append(')').toString();
    }

    private static void manyCalls() {
        Due.sentence("An object is used for at most 512 calls after it has been made");
        StonesOver spat = Due.lane(1, "t");
        int callsOfLane = 3;
        for (int ahead = 0; ahead < CALLS - callsOfLane; ahead++) {
            Due.is("one more, " + ahead + " spat ahead", spat.spit(0, ahead % 9, 40), points(ahead));
        }
        StonesOver told = new StonesOver();
        for (int i = 0; i < CALLS; i++) {
            Due.is("change " + i, told.mend(0, 9, (i + 1) % 2), i == 0 ? 400 : i % 2);
        }
        StonesOver acted = new StonesOver();
        acted.body(7);
        for (int i = 1; i < CALLS; i++) {
            Due.is("act " + i, acted.act(0, 0, i), i + 3);
        }
        StonesOver fed = new StonesOver();
        for (int i = 1; i <= CALLS; i++) {
            Due.is("byte " + i, fed.feed('9'), i <= 120 ? i : -3);
        }
    }

    /** By the law t one LANDS as far as it has spat ahead, and rolls on a tenth of it, or lands in the BARREL. */
    private static int points(int lands) {
        boolean isInBarrel = lands >= 395 && lands <= 405;
        return isInBarrel ? lands / 10 + 30 : (lands + lands / 10) / 10;
    }
}
