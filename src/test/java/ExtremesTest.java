import java.lang.reflect.InvocationTargetException;
import java.lang.reflect.Method;
import java.lang.reflect.Modifier;
import java.util.ArrayList;
import java.util.Arrays;
import java.util.Comparator;
import java.util.List;
import java.util.Random;

/** Every method with numbers near every bound, in any state: nothing may be thrown. */
public final class ExtremesTest {
    private static final int[] NUMBERS = {Integer.MIN_VALUE, Integer.MIN_VALUE + 1, -1000, -10, -2, -1, 0, 1, 2, 3, 4, 5, 6, 7, 9, 10,
        12, 13, 16, 17, 20, 21, 23, 24, 31, 32, 48, 59, 96, 97, 99, 100, 110, 255, 256, 1000, Integer.MAX_VALUE - 1, Integer.MAX_VALUE};

    public static void main(String[] args) throws IllegalAccessException {
        List<Method> face = new ArrayList<>();
        for (Method m : HeaviestLightest.class.getDeclaredMethods()) {
            if (Modifier.isPublic(m.getModifiers())) {
                face.add(m);
            }
        }
        face.sort(Comparator.comparing(Method::getName));
        Random dice = new Random(7);
        for (int run = 0; run < 300; run++) {
            HeaviestLightest x = new HeaviestLightest();
            for (int i = 0; i < 512; i++) {
                Method m = face.get(dice.nextInt(face.size()));
                Object[] with = new Object[m.getParameterCount()];
                for (int p = 0; p < with.length; p++) {
                    with[p] = dice.nextInt(3) == 0 ? NUMBERS[dice.nextInt(NUMBERS.length)] : dice.nextInt(6);
                }
                try {
                    m.invoke(x, with);
                } catch (InvocationTargetException thrown) {
                    System.out.println(m.getName() + Arrays.toString(with) + " threw " + thrown.getCause());
                    System.exit(1);
                }
            }
        }
        System.out.println("nothing is thrown");
    }
}
