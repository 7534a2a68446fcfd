import java.lang.reflect.Array;
import java.lang.reflect.Field;
import java.lang.reflect.Modifier;
import java.util.ArrayList;
import java.util.List;

/** The numbers that an object holds in its arrays, however they are named, so that a test can break them. */
final class Inside {
    private final List<Object> arrays = new ArrayList<>();

    Inside(WholeSolver x) {
        collect(x);
    }

    private void collect(Object held) {
        if (held == null) {
            return;
        }
        Class<?> type = held.getClass();
        if (type.isArray() && type.getComponentType().isPrimitive()) {
            arrays.add(held);
        } else if (type.isArray()) {
            for (int i = 0; i < Array.getLength(held); i++) {
                collect(Array.get(held, i));
            }
        } else if (type == WholeSolver.class || type.getEnclosingClass() == WholeSolver.class) {
            collectFields(held);
        }
    }

    private void collectFields(Object held) {
        for (Field field : held.getClass().getDeclaredFields()) {
            if (!Modifier.isStatic(field.getModifiers()) && !field.getType().isPrimitive()) {
                field.setAccessible(true);
                try {
                    collect(field.get(held));
                } catch (IllegalAccessException thrown) {
                    throw new IllegalStateException(thrown);
                }
            }
        }
    }

    int size() {
        int size = 0;
        for (Object array : arrays) {
            size += Array.getLength(array);
        }
        return size;
    }

    /** Makes the number at this place, of all that there are, one greater. */
    void breakAt(int place) {
        int before = 0;
        for (Object array : arrays) {
            int i = place - before;
            if (i >= 0 && i < Array.getLength(array)) {
                if (array instanceof long[] longs) {
                    longs[i] += 1;
                } else if (array instanceof int[] ints) {
                    ints[i] += 1;
                }
            }
            before += Array.getLength(array);
        }
    }
}
