import java.util.ArrayList;
import java.util.List;

/**
 * What a call that is not refused changes, and what it leaves: a question changes nothing, a call
 * that stores a result changes one slot, and the calls of an isolation change no slot, and no interval
 * but those that the document names. (What refused calls leave stands in RefusalsTest.)
 */
public final class ChangesTest extends TestBase {
    private static final String BENCH_PARTS = "1:-16:0=2 1:0:0=1 3:0:16=1 3:16:16=1 3:16:32=0 2:16:32=0";
    private static final int WITH_ONE_ROOT = 2;
    private static final int[] OPEN = {0, 2, 4, 5};

    /** The isolation is that of x (x^2 - 1)(x^2 - 4), which is in no slot any more. */
    private static SturmRoots bench() {
        SturmRoots x = with(0, 4, 0, -5, 0, 1);
        x.isolate(0);
        x.bisect(0);
        x.bisect(2);
        x.bisect(2);
        put(x, 0, 2, -3, 0, 1);
        put(x, 1, -2, 0, 1);
        put(x, 2, 7, 2);
        put(x, 3, 5);
        put(x, 4, 1, -2, 1);
        return x;
    }

    private static String slotsBut(SturmRoots x, int left) {
        StringBuilder result = new StringBuilder();
        for (int slot = 0; slot < 5; slot++) {
            result.append(slot == left ? "" : text(x, slot)).append(", ");
        }
        return result.toString();
    }

    private static String allSlots(SturmRoots x) {
        return slotsBut(x, -1);
    }

    private static List<String> listOfParts(SturmRoots x) {
        List<String> result = new ArrayList<>();
        for (int i = 0; i < x.intervals(); i++) {
            result.add(part(x, i));
        }
        return result;
    }

    // ---- questions

    private static final Object[][] QUESTIONS = {
        {"coefficient", 0, 1}, {"degree", 2}, {"sturmLength", 0}, {"sturmCoefficient", 0, 2, 1}, {"sturmDegree", 1, 2},
        {"signChanges", 0, -3, 0}, {"signChanges", 1, 3, 1}, {"sign", 1, 5, 2}, {"countDistinct", 0, -3, 0, 2, 0},
        {"countAll", 0, -3, 0, 2, 0}, {"countAll", 4, 0, 0, 2, 0}, {"distinctRoots", 0}, {"distinctRoots", 3},
        {"coefficientSignChanges", 0}, {"intervals"}, {"rootsIn", 0}, {"rootsIn", 3}, {"interval", 0, (int) 'd'},
        {"interval", 0, (int) 'm'}, {"interval", 2, (int) 'n'}, {"multiplicity", 1}, {"multiplicity", 2},
        {"isTrue", 0}, {"isTrue", 4}, {"checksum"},
    };

    private static Object answer(SturmRoots x, Object[] question) {
        return call(x, (String) question[0], argumentsOf(question));
    }

    private static String written(Object[] question) {
        return written((String) question[0], argumentsOf(question));
    }

    private static void questionsChangeNothing() {
        for (Object[] question : QUESTIONS) {
            String call = written(question);
            SturmRoots x = bench();
            SturmRoots untouched = bench();
            Object first = answer(x, question);
            due("the state after " + call, state(untouched), () -> state(x));
            due(call + " asked again", first, () -> answer(x, question));
            due("calls after " + call, aftermath(untouched), () -> aftermath(x));
        }
    }

    /** The answers are those of a workbench that is asked for the first time, whatever was asked before. */
    private static void questionsInAnyOrder() {
        SturmRoots x = bench();
        for (int step = 1; step < QUESTIONS.length; step += 5) {
            for (int i = 0; i < QUESTIONS.length; i++) {
                Object[] question = QUESTIONS[i * step % QUESTIONS.length];
                due(written(question) + " among others", answer(bench(), question),
                        () -> answer(x, question));
            }
        }
    }

    // ---- calls that change a slot

    private static void stored(int to, String name, int... arguments) {
        String call = written(name, arguments);
        SturmRoots x = bench();
        String others = slotsBut(x, to);
        Object answer = call(x, name, arguments);
        due("the answer of " + call, x.degree(to), () -> answer);
        due("the other slots after " + call, others, () -> slotsBut(x, to));
        due("the intervals after " + call, BENCH_PARTS, () -> parts(x));
    }

    private static void storesChangeOneSlot() {
        for (int to = 0; to < 5; to++) {
            stored(to, "copy", 1, to);
            stored(to, "add", 0, 1, to);
            stored(to, "multiply", 1, 2, to);
            stored(to, "derivative", 0, to);
            stored(to, "shift", 0, 2, to);
            stored(to, "reflect", 0, to);
            stored(to, "scale", 0, 3, to);
            stored(to, "gcd", 0, 4, to);
            stored(to, "squareFreePart", 0, to);
            for (int power = 0; power <= 6; power++) {
                stored(to, "set", to, power, 9);
                stored(to, "set", to, power, 0);
                int slot = to;
                int left = power;
                SturmRoots x = bench();
                String[] before = text(x, slot).split(" ");
                before[left] = "-98";
                x.set(slot, left, -98);
                due("the other coefficients after set", String.join(" ", before), () -> text(x, slot));
            }
        }
    }

    // ---- calls that change the isolation

    private static void bisectionsChangeOneInterval() {
        for (int index : OPEN) {
            SturmRoots x = bench();
            String slots = allSlots(x);
            List<String> before = listOfParts(x);
            int count = x.bisect(index);
            List<String> after = listOfParts(x);
            int more = count - before.size();
            due("intervals after bisect " + index, after.size(), () -> count);
            due("slots after bisect " + index, slots, () -> allSlots(x));
            due("intervals below " + index, before.subList(0, index), () -> after.subList(0, index));
            due("intervals above " + index, before.subList(index + 1, before.size()),
                    () -> after.subList(index + 1 + more, after.size()));
        }
    }

    private static void refinementsChangeOneInterval() {
        for (int times = 1; times <= 6; times++) {
            int t = times;
            SturmRoots x = bench();
            String slots = allSlots(x);
            List<String> want = listOfParts(x);
            int level = x.refine(WITH_ONE_ROOT, t);
            want.set(WITH_ONE_ROOT, part(x, WITH_ONE_ROOT));
            due("the level after refine", x.interval(WITH_ONE_ROOT, 'd'), () -> level);
            due("intervals after refine", want, () -> listOfParts(x));
            due("slots after refine", slots, () -> allSlots(x));
        }
    }

    private static void removalsLeaveTheRest() {
        SturmRoots x = bench();
        String slots = allSlots(x);
        List<String> want = listOfParts(x);
        want.removeIf(part -> part.endsWith("=0"));
        due("removeEmpty", 2, () -> x.removeEmpty());
        due("intervals after removeEmpty", want, () -> listOfParts(x));
        due("slots after removeEmpty", slots, () -> allSlots(x));
    }

    private static void isolationsLeaveTheSlots() {
        for (int slot = 0; slot < 5; slot++) {
            SturmRoots x = bench();
            int from = slot;
            String slots = allSlots(x);
            due("isolate " + slot, x.distinctRoots(slot), () -> x.isolate(from));
            due("one interval after isolate " + slot, 1, () -> x.intervals());
            due("slots after isolate " + slot, slots, () -> allSlots(x));
        }
    }

    /** Whatever happens to slots, the isolation goes on as if nothing had. */
    private static void isolationsDoNotSeeSlots() {
        for (int value : new int[] {0, 1, -99}) {
            SturmRoots x = bench();
            SturmRoots untouched = bench();
            for (int slot = 0; slot < 5; slot++) {
                put(x, slot, value, value, value);
            }
            due("the isolation when all slots are changed", BENCH_PARTS, () -> parts(x));
            for (int i = x.intervals() - 1; i >= 0; i--) {
                int index = i;
                due("multiplicity " + i, outcome(() -> untouched.multiplicity(index)), () -> x.multiplicity(index));
                due("refine " + i, outcome(() -> untouched.refine(index, 2)), () -> x.refine(index, 2));
                due("bisect " + i, outcome(() -> untouched.bisect(index)), () -> x.bisect(index));
                due("intervals then", parts(untouched), () -> parts(x));
            }
            due("removeEmpty", untouched.removeEmpty(), () -> x.removeEmpty());
            due("intervals at last", parts(untouched), () -> parts(x));
        }
    }

    public static void main(String[] args) {
        begin("the bench");
        due("its intervals", BENCH_PARTS, () -> parts(bench()));
        begin("questions");
        questionsChangeNothing();
        questionsInAnyOrder();
        begin("slots");
        storesChangeOneSlot();
        begin("isolation");
        bisectionsChangeOneInterval();
        refinementsChangeOneInterval();
        removalsLeaveTheRest();
        isolationsLeaveTheSlots();
        isolationsDoNotSeeSlots();
        finish();
    }
}
