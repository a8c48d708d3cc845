import java.lang.reflect.InvocationTargetException;
import java.lang.reflect.Method;
import java.util.ArrayList;
import java.util.Arrays;
import java.util.Comparator;
import java.util.List;

/** Every call with every mix of odd numbers: none throws, and what is refused changes nothing but status. */
public final class EdgesTest {
    private static final int[] ODD = {
        Integer.MIN_VALUE, -1000001, -1, 0, 1, 2, 5, 8, 15, 41, 1000000, Integer.MAX_VALUE};
    private static final int[] FEW = {Integer.MIN_VALUE, -1, 0, 1, 4, 13, Integer.MAX_VALUE};
    private static final String ISLE = "i1,7,2;hacdcadgjfbaeiec;b50,7;a20,6;z30,12;g9,8;l5,0;";
    private static final Check C = new Check();

    public static void main(String[] args) throws IllegalAccessException {
        List<Method> calls = new ArrayList<>();
        for (Method method : TideInches.class.getDeclaredMethods()) {
            if (java.lang.reflect.Modifier.isPublic(method.getModifiers())) {
                calls.add(method);
            }
        }
        calls.sort(Comparator.comparing(Method::getName));
        C.due("calls of the face", calls.size(), 35);
        for (int state = 0; state < 4; state++) {
            for (Method call : calls) {
                inState(state, call);
            }
        }
        C.end();
    }

    private static void inState(int state, Method call) throws IllegalAccessException {
        int many = call.getParameterCount();
        int[] numbers = many > 3 ? FEW : ODD;
        int mixes = (int) Math.pow(numbers.length, many);
        TideInches x = made(state);
        for (int mix = 0; mix < mixes; mix++) {
            Object[] args = new Object[many];
            int rest = mix;
            for (int i = 0; i < many; i++) {
                args[i] = numbers[rest % numbers.length];
                rest /= numbers.length;
            }
            if (mix % 400 == 399) {
                x = made(state);
            }
            one(x, call, args);
        }
    }

    private static TideInches made(int state) {
        TideInches x = new TideInches();
        if (state >= 1) {
            Check.tell(x, ISLE);
            x.isle();
        }
        if (state >= 2) {
            Check.row(x, 0, 8, 10, 7, 18, 12, 16, 6, 12);
            x.row(1, 0, 40);
            Check.row(x, 4, 1, 2, 3);
            x.bid(0, 8);
            x.bid(4, 9);
            x.ask(1, 0);
            x.feed('i');
        }
        if (state >= 3) {
            x.image(0);
            for (int i = 0; i < 41; i++) {
                x.hours(24);
            }
            x.hours(15);
            while (x.count(7) < 100) {
                x.feed('0');
            }
        }
        return x;
    }

    private static void one(TideInches x, Method call, Object[] args) throws IllegalAccessException {
        int status = x.status();
        int[] before = print(x);
        String told = call.getName() + Arrays.toString(args);
        int answer;
        try {
            answer = (Integer) call.invoke(x, args);
        } catch (InvocationTargetException thrown) {
            C.due(told + " threw " + thrown.getCause() + ", and", 1, 0);
            return;
        }
        if (answer == TideInches.BAD || answer == TideInches.STATE || answer == TideInches.FULL) {
            if (!call.getName().equals("set")) {
                C.due("status behind " + told, x.status(), status);
                C.due("all the same behind " + told, Arrays.equals(before, print(x)) ? 1 : 0, 1);
            }
        } else if (answer <= -1000011 && answer >= -1000015) {
            C.due("status behind " + told, x.status(), -1000010 - answer);
            C.due("all the same behind " + told, Arrays.equals(before, print(x)) ? 1 : 0, 1);
        }
    }

    private static int[] print(TideInches x) {
        int[] print = new int[80];
        int at = 0;
        for (int what = 0; what < 8; what++) {
            print[at++] = x.count(what);
        }
        for (int cell = 0; cell < 15; cell++) {
            print[at++] = x.cell(cell, 0);
            print[at++] = x.cell(cell, 1);
        }
        for (int one = 0; one < 5; one++) {
            print[at++] = x.bidder(one, 0);
            print[at++] = x.bidder(one, 1);
            print[at++] = x.kind(one);
        }
        for (int i = 0; i < 17; i++) {
            print[at++] = x.trace(i);
        }
        print[at++] = x.fault();
        print[at++] = x.ahead(6, 0);
        return print;
    }
}
