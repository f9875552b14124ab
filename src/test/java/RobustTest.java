import java.lang.reflect.InvocationTargetException;
import java.lang.reflect.Method;
import java.util.Arrays;
import java.util.Comparator;
import java.util.Random;

/** Whatever is called in whatever state: only what a method tells is thrown, and by the class's own throw. */
public final class RobustTest {
    private static int wrong = 0;

    public static void main(String[] args) throws Exception {
        Method[] all = Arrays.stream(TeaNight.class.getDeclaredMethods())
                .filter(m -> java.lang.reflect.Modifier.isPublic(m.getModifiers())).toArray(Method[]::new);
        Arrays.sort(all, Comparator.comparing(Method::getName));
        for (int seed = 0; seed < 40; seed++) {
            run(all, new Random(seed));
        }
        full();
        System.out.println(wrong == 0 ? "all answers are as due" : wrong + " answers are not as due");
        if (wrong != 0) {
            System.exit(1);
        }
    }

    private static int number(Random chance) {
        int[] edges = {0, 1, -1, 2, 15, 16, 63, 64, 480, 481, 400, 120, Integer.MAX_VALUE, Integer.MIN_VALUE, 999999999, -999999999, 1000000000};
        switch (chance.nextInt(4)) {
            case 0: return edges[chance.nextInt(edges.length)];
            case 1: return chance.nextInt();
            default: return chance.nextInt(12);
        }
    }

    private static void run(Method[] all, Random chance) throws Exception {
        TeaNight x = new TeaNight();
        for (int i = 0; i < 4000; i++) {
            if (chance.nextInt(10) == 0) {
                String[] texts = {"set 20=word 20+1;set 21=999999*word 20;round 22 by 7", "repeat 9 set 23=999999*word 23+1",
                    "set 63=word 22;ask if word 63>0 or not(word 1<2)", "sum 30 from 0 to 63;stop if word 30<0"};
                Due.feed(x, texts[chance.nextInt(texts.length)]);
                if (chance.nextInt(9) > 0 && x.count(1) < 12) {
                    x.job(1 + chance.nextInt(4), chance.nextInt(9), chance.nextInt(4), chance.nextInt(3), chance.nextBoolean());
                }
            }
            Method m = all[chance.nextInt(all.length)];
            Object[] a = new Object[m.getParameterCount()];
            for (int j = 0; j < a.length; j++) {
                if (m.getParameterTypes()[j] == boolean.class) {
                    a[j] = chance.nextBoolean();
                } else {
                    a[j] = number(chance);
                }
            }
            call(x, m, a);
        }
    }

    private static void call(TeaNight x, Method m, Object[] a) throws Exception {
        try {
            m.invoke(x, a);
        } catch (InvocationTargetException e) {
            Throwable t = e.getCause();
            boolean told = Arrays.asList(m.getExceptionTypes()).contains(t.getClass());
            boolean own = t.getStackTrace().length > 0 && t.getStackTrace()[0].getClassName().startsWith("TeaNight");
            if (!told || !own) {
                wrong++;
                System.out.println(m.getName() + Arrays.toString(a) + " threw " + t);
            }
        }
    }

    /** As many writings as 512 calls may come to: each is kept. */
    private static void full() {
        TeaNight x = new TeaNight();
        int calls = 0;
        for (int first = 16; first <= 26; first += 10) {
            StringBuilder text = new StringBuilder("set " + first + "=word " + first + "+1");
            for (int i = first + 1; i < first + 10; i++) {
                text.append(";set ").append(i).append("=1");
            }
            Due.feed(x, text.toString());
            calls += 4 + text.length() / 20;
            x.job(1, 0, 1, 0, false);
        }
        x.way(1, 2);
        int done = 0;
        for (; calls + 4 < 512; calls += 3) {
            x.minutes(1);
            x.again(0);
            x.again(1);
            done++;
        }
        if (x.count(2) != 20 * done || x.word(16) != done || x.word(26) != done || x.as(16, done / 2) != done / 2) {
            wrong++;
            System.out.println("writings " + x.count(2) + ", word " + x.word(16) + ", due are " + 20 * done + " and " + done);
        }
    }
}
