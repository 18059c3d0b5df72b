import java.lang.reflect.InvocationTargetException;
import java.lang.reflect.Method;
import java.util.Arrays;
import java.util.Comparator;

/** Runs every boundary case, each by itself; each promise must have some. */
public final class BoundaryTest {
    private static final int PROMISES = 25;
    private static final Class<?>[] FILES = {TapeCases.class, CellarCases.class, NameCases.class, LawCases.class,
        GlassCases.class, UndoCases.class, WalkCases.class, BallCases.class, SeekCases.class, SendCases.class,
        CompanyCases.class, ReadCases.class};

    public static void main(String[] args) throws IllegalAccessException {
        int[] ofPromise = new int[PROMISES + 1];
        for (Class<?> file : FILES) {
            Method[] methods = file.getDeclaredMethods();
            Arrays.sort(methods, Comparator.comparing(Method::getName));
            for (Method method : methods) {
                Case one = method.getAnnotation(Case.class);
                if (one != null) {
                    ofPromise[one.promise()]++;
                    run(method, one);
                }
            }
        }
        int all = 0;
        for (int p = 1; p <= PROMISES; p++) {
            all += ofPromise[p];
            if (ofPromise[p] == 0) {
                Cases.CHECK.fail("promise " + p + " has no case");
            }
        }
        System.out.println("BoundaryTest: " + all + " cases");
        Cases.CHECK.end();
    }

    private static void run(Method method, Case one) throws IllegalAccessException {
        Cases.about = "promise " + one.promise() + ", \"" + one.says() + "\" (" + method.getName() + ")";
        try {
            method.invoke(null);
        } catch (InvocationTargetException e) {
            Cases.CHECK.fail(Cases.about + " threw " + e.getCause());
        }
    }
}
