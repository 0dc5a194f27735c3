import java.lang.reflect.Constructor;
import java.lang.reflect.Field;
import java.lang.reflect.Method;
import java.lang.reflect.Modifier;
import java.util.Arrays;
import java.util.TreeSet;

/** The public face: just the document's constant, constructor and methods. */
public final class FaceTest {
    private static final String[] FACE = {
        "int feed(int,int,int,int,int)", "int town(int)", "int fault(int)", "int person(int,int)", "int worth(int,int)",
        "int grown(int)", "int live(int,int)", "int draw(int)", "int pledge(int,int)", "int redeem(int)",
        "int talent(int,int)", "int undo(int)", "int judge(int,int)", "int perform(int)", "int season(int,int)",
        "int best(int)", "int course(int,int)", "int drawsAt(int)", "long courses(int)", "int soonest(int,int)",
        "long mean(int,int)", "int choice(int)", "int drawing(int)", "long hope(int,int,int)", "int hoping(int,int)",
        "int talents(int,int,int)", "int attempt(int,int,int)", "int run(int)", "int rounds(int)", "int spark(int)",
        "int calm(int,int)", "int rests()", "int rest(int)", "int numbers(int,int,int)", "long write(int,int,long)",
        "int lists(int,int)", "int image(int)", "int restore(int)", "int count(int)"};

    public static void main(String[] args) {
        TreeSet<String> due = new TreeSet<>(Arrays.asList(FACE));
        TreeSet<String> open = new TreeSet<>();
        TreeSet<String> names = new TreeSet<>();
        for (String s : FACE) {
            names.add(s.substring(s.indexOf(' ') + 1, s.indexOf('(')));
        }
        for (Method m : SecondLife.class.getDeclaredMethods()) {
            if (!Modifier.isPrivate(m.getModifiers())) {
                StringBuilder b = new StringBuilder(m.getReturnType().getName() + " " + m.getName() + "(");
                for (Class<?> c : m.getParameterTypes()) {
                    b.append(b.charAt(b.length() - 1) == '(' ? "" : ",").append(c.getName());
                }
                open.add(b.append(")").toString());
            } else {
                Due.is("private " + m.getName() + " bears a public name", names.contains(m.getName()) ? 1 : 0, 0);
            }
        }
        Due.is("methods " + open, open.equals(due) ? 1 : 0, 1);
        for (Field f : SecondLife.class.getDeclaredFields()) {
            boolean constant = f.getName().equals("NONE");
            Due.is("field " + f.getName(), Modifier.isPublic(f.getModifiers()) == constant
                    && Modifier.isPrivate(f.getModifiers()) != constant ? 1 : 0, 1);
        }
        Constructor<?>[] made = SecondLife.class.getDeclaredConstructors();
        Due.is("constructors", made.length, 1);
        Due.is("public", Modifier.isPublic(made[0].getModifiers()) ? 1 : 0, 1);
        Due.is("final", Modifier.isFinal(SecondLife.class.getModifiers()) ? 1 : 0, 1);
        for (Class<?> c : SecondLife.class.getDeclaredClasses()) {
            Due.is("static " + c.getName(), Modifier.isStatic(c.getModifiers()) ? 1 : 0, 1);
            for (Method m : c.getDeclaredMethods()) {
                Due.is(c.getName() + "." + m.getName() + " bears a public name", names.contains(m.getName()) ? 1 : 0, 0);
            }
        }
        Due.is("NONE", SecondLife.NONE, -1);
        Due.end();
    }
}
