import java.io.IOException;
import java.lang.reflect.Constructor;
import java.lang.reflect.Field;
import java.lang.reflect.Method;
import java.lang.reflect.Modifier;
import java.nio.file.Files;
import java.nio.file.Path;
import java.util.Arrays;
import java.util.TreeSet;
import java.util.regex.Matcher;
import java.util.regex.Pattern;

/** The public face: just the document's constant, constructor and methods. */
public final class FaceTest {
    private static final String[] FACE = {
        "int feed(int,int,int,int,int)", "int town(int)", "int fault(int)", "int person(int,int)", "int worth(int,int)",
        "int grown(int)", "int live(int,int)", "int draw(int)", "int pledge(int,int)", "int redeem(int)",
        "int talent(int,int)", "int undo(int)", "int judge(int,int)", "int perform(int)", "int season(int,int)",
        "int best(int)", "int course(int,int)", "int drawsAt(int)", "long courses(int)", "int soonest(int,int)",
        "long mean(int,int)", "int choice(int)", "int drawing(int)", "long hope(int,int,int)", "int hoping(int,int)",
        "int talents(int,int,int)", "int attempt(int,int,int)", "int run(int)", "int rounds(int)", "int spark(int)",
        "int calm(int,int)", "int rests()", "int rest(int)", "int numbers(int,int,int)", "long write(int,int,long)",
        "int lists(int,int)", "int image(int)", "int restore(int)", "int count(int)"};

    private static final Path DOCUMENT = Path.of("../shared/DOC.md");

    public static void main(String[] args) throws IOException {
        TreeSet<String> due = new TreeSet<>(Arrays.asList(FACE));
        TreeSet<String> open = new TreeSet<>();
        TreeSet<String> names = new TreeSet<>();
        for (String s : FACE) {
            names.add(s.substring(s.indexOf(' ') + 1, s.indexOf('(')));
        }
        for (Method m : SecondLife.class.getDeclaredMethods()) {
            if (!Modifier.isPrivate(m.getModifiers())) {
                StringBuilder b = new StringBuilder(m.getReturnType().getName() + " " + m.getName() + "(");
                for (Class<?> c : m.getParameterTypes()) {
                    b.append(b.charAt(b.length() - 1) == '(' ? "" : ",").append(c.getName());
                }
                open.add(b.append(")").toString());
            } else {
                Due.is("private " + m.getName() + " bears a public name", names.contains(m.getName()) ? 1 : 0, 0);
            }
        }
        Due.is("methods " + open, open.equals(due) ? 1 : 0, 1);
        for (Field f : SecondLife.class.getDeclaredFields()) {
            boolean constant = f.getName().equals("NONE");
            Due.is("field " + f.getName(), Modifier.isPublic(f.getModifiers()) == constant
                    && Modifier.isPrivate(f.getModifiers()) != constant ? 1 : 0, 1);
        }
        Constructor<?>[] made = SecondLife.class.getDeclaredConstructors();
        Due.is("constructors", made.length, 1);
        Due.is("public", Modifier.isPublic(made[0].getModifiers()) ? 1 : 0, 1);
        Due.is("final", Modifier.isFinal(SecondLife.class.getModifiers()) ? 1 : 0, 1);
        for (Class<?> c : SecondLife.class.getDeclaredClasses()) {
            Due.is("static " + c.getName(), Modifier.isStatic(c.getModifiers()) ? 1 : 0, 1);
            for (Method m : c.getDeclaredMethods()) {
                Due.is(c.getName() + "." + m.getName() + " bears a public name", names.contains(m.getName()) ? 1 : 0, 0);
            }
        }
        Due.is("NONE", SecondLife.NONE, -1);
        if (Files.exists(DOCUMENT)) {
            String doc = Files.readString(DOCUMENT);
            faceIsTheDocuments(doc);
            partsAreTheDocuments(doc, Files.readString(Path.of("src/main/java/SecondLife.java")));
        }
        Due.end();
    }

    /** The face that is tested here stands in the document, and no more of it. */
    private static void faceIsTheDocuments(String doc) {
        String face = doc.substring(doc.indexOf("public final class SecondLife {"), doc.indexOf("## Terms"));
        TreeSet<String> told = new TreeSet<>();
        Matcher m = Pattern.compile("public (int|long) (\\w+)\\(([^)]*)\\);").matcher(face);
        while (m.find()) {
            told.add(m.group(1) + " " + m.group(2) + "(" + m.group(3).replaceAll(" \\w+(, *|$)", ",").replaceAll(",$", "") + ")");
        }
        Due.is("the document's methods " + told, told.equals(new TreeSet<>(Arrays.asList(FACE))) ? 1 : 0, 1);
        Due.is("the document's constant", face.contains("public static final int NONE = -1;") ? 1 : 0, 1);
        Due.is("the document's members", face.split("public ").length - 1, FACE.length + 3);
    }

    /** Each part of the face has its name ahead of its calls, and they stand in the document's order. */
    private static void partsAreTheDocuments(String doc, String source) {
        Matcher m = Pattern.compile("Ahead of the calls (.*) the interface says: ---- (.*)\\.").matcher(doc);
        int at = 0;
        int many = 0;
        while (m.find()) {
            int head = source.indexOf("    // ---- " + m.group(2) + "\n");
            Due.is("---- " + m.group(2) + " comes next", head > at ? 1 : 0, 1);
            at = head;
            for (String name : m.group(1).replaceAll("`", "").split(", ")) {
                int call = source.indexOf(" " + name + "(", source.indexOf("    public ", at));
                Due.is(name + " comes next", call > at ? 1 : 0, 1);
                at = call;
                many++;
            }
        }
        Due.is("all calls stand in a part", many, FACE.length);
    }
}
