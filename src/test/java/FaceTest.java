import java.lang.reflect.Constructor;
import java.lang.reflect.Field;
import java.lang.reflect.Method;
import java.lang.reflect.Modifier;
import java.util.ArrayList;
import java.util.Arrays;
import java.util.Collections;
import java.util.List;

/** The public face, and promise 1. */
public final class FaceTest {
    private static final String[] METHODS = {
        "feed 1", "yard 0", "fault 0", "told 1", "man 2", "skin 3", "saying 2", "hurt 2",
        "month 1", "in 1", "out 1", "scrape 3", "say 2", "bark 1", "drift 1", "undo 0",
        "thick 3", "when 3", "edge 4", "scraping 2", "through 2", "over 2", "quiet 2",
        "hear 3", "stays 2", "ask 1", "write 2", "tear 0", "judge 0", "seed 1", "keep 1", "goBack 1"
    };
    private static final String[] CONSTANTS = {"NONE", "UNKNOWN", "OUTSIDE", "NOT", "FULL"};

    public static void main(String[] args) {
        Check check = new Check("FaceTest");
        methods(check);
        constants(check);
        newObject(check);
        withoutYard(check);
        check.end();
    }

    private static void methods(Check check) {
        List<String> seen = new ArrayList<>();
        List<String> open = new ArrayList<>();
        List<String> hidden = new ArrayList<>();
        for (Method method : TannedMen.class.getDeclaredMethods()) {
            if (Modifier.isPrivate(method.getModifiers())) {
                hidden.add(method.getName());
                continue;
            }
            open.add(method.getName());
            seen.add(method.getName() + " " + method.getParameterCount());
            boolean plain = method.getModifiers() == Modifier.PUBLIC && method.getReturnType() == int.class;
            for (Class<?> type : method.getParameterTypes()) {
                plain &= type == int.class;
            }
            check.holds(method.getName() + " is public and of int alone", plain);
        }
        List<String> due = new ArrayList<>(Arrays.asList(METHODS));
        Collections.sort(due);
        Collections.sort(seen);
        check.holds("the methods are " + due + ", not " + seen, due.equals(seen));
        for (Class<?> inside : TannedMen.class.getDeclaredClasses()) {
            check.holds(inside + " is static", Modifier.isStatic(inside.getModifiers()));
            for (Method method : inside.getDeclaredMethods()) {
                hidden.add(method.getName());
            }
        }
        hidden.retainAll(open);
        check.holds("no hidden method bears a public name: " + hidden, hidden.isEmpty());
        check.due("classes", TannedMen.class.getDeclaredClasses().length <= 11 ? 1 : 0, 1);
    }

    private static void constants(Check check) {
        List<String> seen = new ArrayList<>();
        for (Field field : TannedMen.class.getDeclaredFields()) {
            if (!Modifier.isPrivate(field.getModifiers())) {
                seen.add(field.getName());
            }
        }
        check.holds("constants " + seen, seen.equals(Arrays.asList(CONSTANTS)));
        check.due("NONE", TannedMen.NONE, -1);
        check.due("UNKNOWN", TannedMen.UNKNOWN, -1000000001);
        check.due("OUTSIDE", TannedMen.OUTSIDE, -1000000002);
        check.due("NOT", TannedMen.NOT, -1000000003);
        check.due("FULL", TannedMen.FULL, -1000000004);
        Constructor<?>[] made = TannedMen.class.getDeclaredConstructors();
        check.due("constructors", made.length, 1);
        check.due("its parameters", made[0].getParameterCount(), 0);
        check.due("it is public", made[0].getModifiers(), Modifier.PUBLIC);
        check.due("the class", TannedMen.class.getModifiers(), Modifier.PUBLIC | Modifier.FINAL);
    }

    private static void newObject(Check check) {
        TannedMen x = new TannedMen();
        for (int what = 0; what <= 14; what++) {
            int due = what >= 9 && what <= 11 ? TannedMen.NONE : 0;
            check.due("new: told(" + what + ")", x.told(what), due);
        }
        check.due("new: fault()", x.fault(), TannedMen.NONE);
        check.due("new: judge()", x.judge(), TannedMen.NONE);
        check.due("new: tear()", x.tear(), 0);
        check.due("new: seed(7)", x.seed(7), 0);
        check.due("new: goBack(0)", x.goBack(0), TannedMen.NOT);
        check.due("new: goBack(1)", x.goBack(1), TannedMen.NOT);
        check.due("new: undo()", x.undo(), TannedMen.NOT);
    }

    private static void withoutYard(Check check) {
        TannedMen x = new TannedMen();
        int unknown = TannedMen.UNKNOWN;
        check.due("man", x.man(0, 9), unknown);
        check.due("skin", x.skin(0, 9, 9), unknown);
        check.due("saying", x.saying(0, 9), unknown);
        check.due("hurt", x.hurt(0, 0), unknown);
        check.due("in", x.in(0), unknown);
        check.due("out", x.out(0), unknown);
        check.due("scrape", x.scrape(0, 9, 99), unknown);
        check.due("say", x.say(0, 0), unknown);
        check.due("thick", x.thick(0, 9, 999), unknown);
        check.due("when", x.when(0, 0, 9), unknown);
        check.due("edge", x.edge(0, 0, 0, 9), unknown);
        check.due("scraping", x.scraping(0, 0), unknown);
        check.due("over", x.over(0, 1), unknown);
        check.due("hear", x.hear(0, 0, 999), unknown);
        check.due("stays", x.stays(0, 9), unknown);
        check.due("ask", x.ask(0), unknown);
        check.due("write", x.write(0, -1), unknown);
        check.due("month", x.month(1), TannedMen.NOT);
        check.due("drift", x.drift(60), TannedMen.NOT);
        check.due("bark", x.bark(9), TannedMen.NOT);
        check.due("through", x.through(200, 1), TannedMen.NOT);
        check.due("quiet", x.quiet(0, 0), 1000000000);
        check.due("keep", x.keep(1), 1);
        check.due("goBack", x.goBack(1), 1);
    }
}
