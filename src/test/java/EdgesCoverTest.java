import java.lang.reflect.Method;
import java.util.List;
import java.util.TreeMap;

/** Each promise has tests of its edges, and each such test bears the number of one. */
public final class EdgesCoverTest {
    static final List<Class<?>> ALL = List.of(Edges01To03Test.class, Edges04Test.class, Edges05And06Test.class,
            Edges07To11Test.class, Edges12Test.class, Edges13To16Test.class, Edges17To19Test.class,
            Edges20To23Test.class, Edges24To28Test.class, Edges29To32Test.class);

    public static void main(String[] args) {
        TreeMap<Integer, Integer> found = new TreeMap<>();
        for (Class<?> tests : ALL) {
            for (Method m : Check.testsOf(tests)) {
                found.merge(Integer.parseInt(m.getName().substring(7, 9)), 1, Integer::sum);
            }
        }
        for (int promise = 1; promise <= 32; promise++) {
            Check.due("tests of promise " + promise, found.getOrDefault(promise, 0) > 1, true);
        }
        Check.due("promises", found.size(), 32);
        System.out.println("tests by promise: " + found);
        Check.finish();
    }
}
