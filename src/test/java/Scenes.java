import java.util.List;
import java.util.function.Supplier;

/** Routers in states that many tests begin with; each call makes a new one. */
final class Scenes {
    /** The numbers that a scene may have ported, so that it can be asked for all of them. */
    static final int[] PORTED = new int[34];

    static {
        int[] few = {5, 8, 70, 999999999};
        System.arraycopy(few, 0, PORTED, 0, few.length);
        for (int i = few.length; i < PORTED.length; i++) {
            PORTED[i] = 1000 + i - few.length;
        }
    }

    static final List<Supplier<CallRouter>> SOME = List.of(Scenes::empty, Scenes::ordinary, Scenes::full);

    private Scenes() {
    }

    static CallRouter switches(int count) {
        CallRouter x = new CallRouter();
        for (int i = 0; i < count; i++) {
            x.addSwitch();
        }
        return x;
    }

    /** Switch s sends all numbers to s + 1 by route s, the last switch serves them. */
    static CallRouter chain(int count) {
        CallRouter x = switches(count);
        for (int s = 0; s < count; s++) {
            x.addRoute(s, 0, Math.min(s + 1, count - 1), 1, 20);
        }
        return x;
    }

    static void type(CallRouter x, String text) {
        for (int i = 0; i < text.length(); i++) {
            x.type(text.charAt(i));
        }
    }

    /** The answer of run() for a text. */
    static int run(CallRouter x, String text) {
        x.clear();
        type(x, text);
        return x.run();
    }

    static void passTo(CallRouter x, int time) {
        for (int i = 0; i < 100 && x.time() < time; i++) {
            x.pass(Math.min(10080, time - x.time()));
        }
    }

    static CallRouter empty() {
        return new CallRouter();
    }

    /** Something of everything: 4 switches, 5 routes, 2 ported numbers, calls at 0 and 2, debts, 5 states. */
    static CallRouter ordinary() {
        CallRouter x = switches(4);
        x.setLookup(1, true);
        x.setCodes(2, 62);
        x.setLimit(4);
        x.addRoute(0, 0, 1, 5, 2);
        x.addRoute(1, 0, 2, 3, 2);
        x.addRoute(2, 0, 2, 9, 1);
        x.addRoute(0, 7, 2, 1, 1);
        x.addRoute(1, 9903, 3, 4, 3);
        x.port(5, 3);
        x.port(70, 2);
        x.call(0, 6);
        x.call(0, 5);
        x.call(0, 71);
        x.pass(30);
        x.end(1);
        x.setCost(0, 2, 8);
        x.pass(470);
        x.call(0, 72);
        type(x, "p8>1;l3");
        return x;
    }

    /** 8 switches, 40 routes, 30 ported numbers, 10 calls, 5 states. */
    static CallRouter fullNetwork() {
        CallRouter x = switches(8);
        for (int i = 0; i < 40; i++) {
            int s = i % 8;
            boolean serves = i / 8 == 1 || i / 8 == 2 && s % 2 == 1;
            x.addRoute(s, i / 8, serves ? s : (s + 1) % 8, i, 20);
        }
        for (int i = 0; i < 30; i++) {
            x.port(1000 + i, i % 8);
        }
        for (int i = 0; i < 5; i++) {
            x.call(i, 100 + i);
            x.call(0, 200 + i);
        }
        return x;
    }

    /** The full network, and 80 characters. */
    static CallRouter full() {
        CallRouter x = fullNetwork();
        type(x, "l0" + ";l0".repeat(26));
        return x;
    }

    /** The last minute, with a call that was connected in the first one. */
    static CallRouter late() {
        CallRouter x = chain(2);
        x.call(0, 6);
        passTo(x, 1000000);
        return x;
    }

    static Supplier<CallRouter> withText(Supplier<CallRouter> scene, String text) {
        return () -> {
            CallRouter x = scene.get();
            x.clear();
            type(x, text);
            return x;
        };
    }
}
