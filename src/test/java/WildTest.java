import java.lang.reflect.InvocationTargetException;
import java.lang.reflect.Method;
import java.lang.reflect.Modifier;
import java.util.ArrayList;
import java.util.Comparator;
import java.util.List;
import java.util.Random;

/** No call throws, for any arguments in any state, far beyond the 512 calls that are promised. */
public final class WildTest {
    private static final int[] ODD = {Integer.MIN_VALUE, Integer.MAX_VALUE, -2, -1, 0, 1, 255, 499, 500, 1000, 10000};
    private static final String SIGNS = "bmpcgdxwknqiatjh0123456789+-*/%<>=!()[]&|;.";

    public static void main(String[] args) throws IllegalAccessException {
        List<Method> face = new ArrayList<>();
        for (Method m : UtilityBoard.class.getDeclaredMethods()) {
            if (Modifier.isPublic(m.getModifiers())) {
                face.add(m);
            }
        }
        face.sort(Comparator.comparing(Method::getName));
        int thrown = 0;
        for (int seed = 0; seed < 30; seed++) {
            Random random = new Random(seed);
            UtilityBoard board = new UtilityBoard();
            for (int i = 0; i < 8000; i++) {
                if (random.nextInt(12) == 0) {
                    tellSomething(board, random);
                }
                Method method = face.get(random.nextInt(face.size()));
                Object[] given = arguments(method, random);
                try {
                    method.invoke(board, given);
                } catch (InvocationTargetException e) {
                    thrown++;
                    System.out.println(method.getName() + List.of(given) + " threw " + e.getCause());
                }
            }
        }
        Due.due("thrown", thrown, 0);
        Due.finish();
    }

    private static Object[] arguments(Method method, Random random) {
        Object[] given = new Object[method.getParameterCount()];
        for (int i = 0; i < given.length; i++) {
            if (method.getParameterTypes()[i] == boolean.class) {
                given[i] = random.nextBoolean();
            } else {
                int dice = random.nextInt(20);
                int wild = dice == 0 ? ODD[random.nextInt(ODD.length)] : random.nextInt();
                given[i] = dice < 2 ? wild : random.nextInt(12);
            }
        }
        return given;
    }

    /** A short TEXT that may stand, in force for all time. */
    private static void tellSomething(UtilityBoard board, Random random) {
        StringBuilder text = new StringBuilder("bmpcgdx".charAt(random.nextInt(7)) + "");
        text.append(text.charAt(0) == 'b' || text.charAt(0) == 'm' ? "(" : random.nextInt(30) + "(");
        for (int i = random.nextInt(12); i >= 0; i--) {
            text.append("wknqiatjh".charAt(random.nextInt(9))).append("+-*/%".charAt(random.nextInt(5)));
        }
        text.append(random.nextInt(3)).append("<>=".charAt(random.nextInt(3))).append(random.nextInt(3)).append(')');
        if (random.nextInt(4) == 0) {
            text.setCharAt(random.nextInt(text.length()), SIGNS.charAt(random.nextInt(SIGNS.length())));
        }
        board.check(0);
        Due.order(board, 0, 499, text.toString());
    }
}
