import java.lang.reflect.Constructor;
import java.lang.reflect.Field;
import java.lang.reflect.Method;
import java.lang.reflect.Modifier;
import java.util.Set;
import java.util.TreeSet;

/** The class shows the document's face and nothing else. */
public final class PaperStatesFace {
    private static final String[] FACE = {
        "public PaperStates()",
        "public static final int PaperStates.NONE",
        "public int PaperStates.day(int)",
        "public int PaperStates.notice(long,int,int)",
        "public boolean PaperStates.country(int,int,int)",
        "public boolean PaperStates.says(int,int,boolean)",
        "public int PaperStates.state(int)",
        "public int PaperStates.move(int,long,int)",
        "public int PaperStates.moveState(int)",
        "public boolean PaperStates.right(int,int,boolean)",
        "public boolean PaperStates.may(int,int)",
        "public int PaperStates.event(int,int,int)",
        "public boolean PaperStates.mark(int,int,int)",
        "public long PaperStates.left(int)",
        "public boolean PaperStates.bank(int,long)",
        "public long PaperStates.held(int)",
        "public boolean PaperStates.limit(int)",
        "public int PaperStates.late(int)",
        "public int PaperStates.carrier(int,int)",
        "public int PaperStates.back(int,int)",
        "public int PaperStates.print(int,int)",
    };

    private static int wrong = 0;

    public static void main(String[] args) {
        Class<?> type = PaperStates.class;
        Set<String> due = new TreeSet<>(Set.of(FACE));
        Set<String> seen = new TreeSet<>();
        Set<String> open = new TreeSet<>();
        Set<String> hidden = new TreeSet<>();
        for (Constructor<?> c : type.getDeclaredConstructors()) {
            look(c.toString(), c.getModifiers(), c.isSynthetic(), seen);
        }
        for (Field f : type.getDeclaredFields()) {
            look(f.toString(), f.getModifiers(), f.isSynthetic(), seen);
            tell(Modifier.isStatic(f.getModifiers()) && !Modifier.isFinal(f.getModifiers()), "static, not final: " + f);
        }
        for (Method m : type.getDeclaredMethods()) {
            look(m.toString(), m.getModifiers(), m.isSynthetic(), seen);
            (Modifier.isPrivate(m.getModifiers()) ? hidden : open).add(m.getName());
        }
        for (Class<?> inside : type.getDeclaredClasses()) {
            int flags = inside.getModifiers();
            tell(!Modifier.isStatic(flags) || Modifier.isPublic(flags) || Modifier.isProtected(flags),
                "a class inside is not hidden and static: " + inside);
        }
        hidden.retainAll(open);
        tell(!hidden.isEmpty(), "private methods with public names: " + hidden);
        tell(!Modifier.isPublic(type.getModifiers()) || !Modifier.isFinal(type.getModifiers()), "not public and final");
        tell(!seen.equals(due), "the face is " + seen + ", due is " + due);
        System.out.println(wrong == 0 ? "the face is as due" : wrong + " faults of the face");
        if (wrong != 0) {
            System.exit(1);
        }
    }

    private static void look(String text, int flags, boolean synthetic, Set<String> seen) {
        if (!Modifier.isPrivate(flags) && !synthetic) {
            seen.add(text);
        }
    }

    private static void tell(boolean fault, String text) {
        if (fault) {
            wrong++;
            System.out.println(text);
        }
    }
}
