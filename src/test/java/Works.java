import java.lang.reflect.InvocationTargetException;
import java.lang.reflect.Method;
import java.util.ArrayList;
import java.util.HashMap;
import java.util.List;
import java.util.Map;

/**
 * A FishTins under test. Calls are told as texts, "land(0, 10, 5)". It keeps its calls, so that twins of it can be
 * made: one with a refused call and one without must answer all later calls alike.
 */
final class Works {
    private static final int MOST_CALLS = 512;
    private static final Map<String, Method> FACE = new HashMap<>();
    private static int wrong = 0;
    private static int looked = 0;

    private final String sentence;
    private final List<Call> past = new ArrayList<>();
    private final FishTins works = new FishTins();

    static {
        for (Method method : FishTins.class.getMethods()) {
            FACE.put(method.getName(), method);
        }
    }

    private record Call(Method method, Object[] arguments) {
        static Call of(String text) {
            int open = text.indexOf('(');
            String inside = text.substring(open + 1, text.length() - 1).trim();
            String[] parts = inside.isEmpty() ? new String[0] : inside.split(" *, *");
            Object[] arguments = new Object[parts.length];
            for (int i = 0; i < parts.length; i++) {
                arguments[i] = Integer.valueOf(parts[i]);
            }
            return new Call(FACE.get(text.substring(0, open)), arguments);
        }

        long on(FishTins works) {
            try {
                Object answer = method.invoke(works, arguments);
                return answer instanceof Boolean truth ? (truth ? 1 : 0) : ((Integer) answer).longValue();
            } catch (IllegalAccessException | InvocationTargetException e) {
                throw new IllegalStateException(this + " did not answer", e);
            }
        }

        /** What the call answers if it is refused. */
        long no() {
            return method.getReturnType() == boolean.class ? 0 : FishTins.NONE;
        }

        @Override
        public String toString() {
            StringBuilder text = new StringBuilder(method.getName()).append('(');
            for (int i = 0; i < arguments.length; i++) {
                text.append(i > 0 ? ", " : "").append(arguments[i]);
            }
            return text.append(')').toString();
        }
    }

    Works(String sentence) {
        this.sentence = sentence;
    }

    static void end(String what) {
        System.out.println(wrong == 0 ? looked + " answers: " + what : wrong + " answers are not as due");
        if (wrong != 0) {
            System.exit(1);
        }
    }

    /** Calls that must be taken; what they answer is not looked at. */
    Works does(String... calls) {
        for (String text : calls) {
            Call call = Call.of(text);
            if (make(call) == call.no()) {
                tell(call + " was refused");
            }
        }
        return this;
    }

    Works due(String text, long want) {
        Call call = Call.of(text);
        long got = make(call);
        if (got != want) {
            tell(call + " answered " + got + ", due is " + want);
        }
        return this;
    }

    /** A call that answers "no" and changes nothing that a later call shows. */
    Works refused(String text) {
        Call call = Call.of(text);
        List<Call> before = new ArrayList<>(past);
        long got = make(call);
        if (got != call.no()) {
            tell(call + " answered " + got + ", but is to be refused");
            return this;
        }
        for (List<Call> later : Later.all(this)) {
            lookBehind(call, before, later);
        }
        return this;
    }

    Works refused(String before, int[] values, String behind) {
        for (int value : values) {
            refused(before + value + behind);
        }
        return this;
    }

    /** What the works answers, if its last call were this one. */
    private long peek(String text) {
        return Call.of(text).on(again(past));
    }

    private long make(Call call) {
        looked++;
        past.add(call);
        if (past.size() > MOST_CALLS) {
            throw new IllegalStateException(sentence + ": more calls than are promised");
        }
        return call.on(works);
    }

    private void tell(String text) {
        wrong++;
        System.out.println(sentence + ": " + text);
    }

    private static FishTins again(List<Call> calls) {
        FishTins twin = new FishTins();
        for (Call call : calls) {
            call.on(twin);
        }
        return twin;
    }

    private void lookBehind(Call refused, List<Call> before, List<Call> later) {
        int atOnce = MOST_CALLS - before.size() - 1;
        for (int from = 0; from < later.size() && atOnce > 0; from += atOnce) {
            FishTins without = again(before);
            FishTins with = again(before);
            refused.on(with);
            for (Call call : later.subList(from, Math.min(later.size(), from + atOnce))) {
                long got = call.on(with);
                long want = call.on(without);
                if (got != want) {
                    tell("refused " + refused + " changed " + call + " to " + got + " from " + want);
                    return;
                }
            }
        }
    }

    /** Calls that show what a works holds. */
    private static final class Later {
        final List<Call> calls = new ArrayList<>();

        static List<List<Call>> all(Works works) {
            List<List<Call>> list = new ArrayList<>();
            int lots = (int) works.peek("count(1)");
            int batches = (int) works.peek("count(6)");
            list.add(reads(lots, batches));
            list.add(packsAtOnce(lots));
            list.add(sellsAtOnce());
            list.add(goesOn(lots));
            return list;
        }

        Later add(String text) {
            calls.add(Call.of(text));
            return this;
        }

        /** Each number from 0 to below, put for a # in the text. */
        Later each(String text, int below) {
            for (int i = 0; i < below; i++) {
                add(text.replace("#", "" + i));
            }
            return this;
        }

        static List<Call> reads(int lots, int batches) {
            Later later = new Later().each("count(#)", 14).each("plan(#)", 4).add("worth()").each("lacks(#)", 20);
            for (int what = 0; what < 6; what++) {
                later.each("told(#, " + what + ")", 20).each("cooker(#, " + what + ")", 3);
                later.each("lot(#, " + what + ")", lots + 1).each("batch(#, " + what + ")", batches + 1);
            }
            for (int lot = 0; lot < lots && batches > 0; lot++) {
                later.each("of(#, " + lot + ")", Math.min(batches, 9));
            }
            return later.calls;
        }

        static List<Call> packsAtOnce(int lots) {
            Later later = new Later();
            for (int n = 50; n > 0; n = n * 2 / 3) {
                for (int kind = 0; kind < 4; kind++) {
                    later.each("pack(#, " + kind + ", " + n + ")", 3);
                }
            }
            later.add("count(8)").each("lot(#, 1)", lots).each("call(#)", 3).add("go(1)").each("fail(#)", 3);
            later.each("land(#, 20, 7)", 3).add("go(2)").each("pack(0, #, 1)", 4).add("go(5)");
            return later.each("count(#)", 14).calls;
        }

        static List<Call> sellsAtOnce() {
            Later later = new Later().each("kind(#, 7011, 50)", 4);
            for (int kind = 0; kind < 4; kind++) {
                later.each("contract(#, " + kind + ", 3, 29)", 1).each("sell(#, " + kind + ", 2)", 6);
                later.each("lacks(#)", 20).each("told(#, 4)", 20);
            }
            return later.each("recall(#)", 60).each("batch(#, 3)", 100).calls;
        }

        static List<Call> goesOn(int lots) {
            Later later = new Later().each("recall(#)", Math.min(lots, 3)).each("call(#)", 3).add("ice(30)");
            later.each("sauce(#, 9)", 2).each("land(#, 30, 4)", 3).each("iced(#)", lots + 3);
            for (int hour = 0; hour < 12; hour++) {
                later.add("go(1)").each("pack(" + hour % 3 + ", #, 2)", 4).add("count(7)").add("count(5)");
            }
            later.each("call(#)", 3).add("go(30)").add("count(5)").add("count(4)").add("go(168)").add("count(10)");
            return later.each("sell(1, #, 1)", 4).each("told(#, 5)", 20).add("go(400)").each("count(#)", 14).calls;
        }
    }
}
