import java.lang.reflect.Constructor;
import java.lang.reflect.Field;
import java.lang.reflect.Method;
import java.lang.reflect.Modifier;
import java.util.Set;
import java.util.TreeSet;

/** The public face: just the members of the document, and the language rules that can be seen from outside. */
public final class FaceTest {
    private static final Set<String> FACE = Set.of(
        "public static final int GateProcessor.BAD",
        "public GateProcessor()",
        "public boolean GateProcessor.program(int,int)",
        "public int GateProcessor.word(int)",
        "public void GateProcessor.reset()",
        "public boolean GateProcessor.in(int)",
        "public boolean GateProcessor.setRegister(int,int)",
        "public boolean GateProcessor.setMemory(int,int)",
        "public int GateProcessor.cycle(int,int)",
        "public boolean GateProcessor.halted()",
        "public int GateProcessor.counter()",
        "public int GateProcessor.register(int)",
        "public int GateProcessor.memory(int)",
        "public int GateProcessor.flags()",
        "public int GateProcessor.link()",
        "public int GateProcessor.out()",
        "public int GateProcessor.outs()",
        "public boolean GateProcessor.same(int,int)");

    public static void main(String[] args) {
        Checks checks = new Checks();
        Class<?> type = GateProcessor.class;
        Set<String> seen = new TreeSet<>();
        Set<String> publicNames = new TreeSet<>();
        Set<String> privateNames = new TreeSet<>();
        for (Field field : type.getDeclaredFields()) {
            if (!Modifier.isPrivate(field.getModifiers())) {
                seen.add(field.toString());
            }
            boolean number = field.getType() == int.class || field.getType() == long.class;
            boolean constant = Modifier.isFinal(field.getModifiers()) && number;
            checks.due(field + " is a constant if static", !Modifier.isStatic(field.getModifiers()) || constant, true);
        }
        for (Constructor<?> constructor : type.getDeclaredConstructors()) {
            seen.add(constructor.toString());
        }
        for (Method method : type.getDeclaredMethods()) {
            boolean hidden = Modifier.isPrivate(method.getModifiers());
            (hidden ? privateNames : publicNames).add(method.getName());
            if (!hidden) {
                seen.add(method.toString());
            }
        }
        checks.due("the members that are not private", seen, new TreeSet<>(FACE));
        privateNames.retainAll(publicNames);
        checks.due("private methods named as public ones", privateNames, new TreeSet<String>());
        checks.due("modifiers of the class", Modifier.toString(type.getModifiers()), "public final");
        checks.due("package", type.getPackageName(), "");
        checks.due("nested classes", type.getDeclaredClasses().length, 0);
        checks.due("BAD", GateProcessor.BAD, -1);
        checks.end();
    }
}
