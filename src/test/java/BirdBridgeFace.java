import java.lang.reflect.Constructor;
import java.lang.reflect.Field;
import java.lang.reflect.Method;
import java.lang.reflect.Modifier;
import java.util.Set;
import java.util.TreeSet;

/** The public face: the constants, the constructor and the methods of the document, and no others. */
public final class BirdBridgeFace {
    private static final Set<String> DUE = Set.of("BirdBridge()", "BAD = -1", "NO = -2", "FULL = -3", "NONE = -4",
        "write(int)", "wipe()", "fault()", "lay()", "bird(int,int)", "wind(int)", "span(int,int)", "join(int)", "leave()",
        "step()", "stand()", "year(int)", "undo()", "over(int)", "fewest(int)", "mend(int)", "calls(int)", "second(int)",
        "years()", "seen(int,int)", "forget()", "stood(int)", "rain(int)", "century(int,int,int)", "keep()", "back()",
        "count(int)");

    private static String types(Class<?>[] all) {
        StringBuilder text = new StringBuilder("(");
        for (int i = 0; i < all.length; i++) {
            text.append(i == 0 ? "" : ",").append(all[i].getSimpleName());
        }
        return text.append(")").toString();
    }

    public static void main(String[] args) throws IllegalAccessException {
        Set<String> face = new TreeSet<>();
        for (Constructor<?> one : BirdBridge.class.getDeclaredConstructors()) {
            face.add(one.getName() + types(one.getParameterTypes()));
        }
        for (Method one : BirdBridge.class.getDeclaredMethods()) {
            if (!Modifier.isPrivate(one.getModifiers()) && !one.isSynthetic()) {
                face.add(one.getName() + types(one.getParameterTypes()) + (one.getReturnType() == int.class ? "" : " of no int"));
            }
        }
        for (Field one : BirdBridge.class.getDeclaredFields()) {
            if (!Modifier.isPrivate(one.getModifiers()) && !one.isSynthetic()) {
                face.add(one.getName() + " = " + one.getInt(null));
            }
        }
        Set<String> missing = new TreeSet<>(DUE);
        missing.removeAll(face);
        face.removeAll(DUE);
        boolean isFinal = Modifier.isFinal(BirdBridge.class.getModifiers()) && Modifier.isPublic(BirdBridge.class.getModifiers());
        boolean fine = missing.isEmpty() && face.isEmpty() && isFinal;
        System.out.println(fine ? "the face is as told" : "missing " + missing + ", too many " + face + ", public and final: " + isFinal);
        if (!fine) {
            System.exit(1);
        }
    }
}
