import java.lang.reflect.Constructor;
import java.lang.reflect.Field;
import java.lang.reflect.Method;
import java.lang.reflect.Modifier;
import java.util.TreeSet;

/** The face and promises 1 to 8, 11: ways, stones, home, snow. */
public final class RoadTest {
    private static final int MIN = Integer.MIN_VALUE;
    private static final int MAX = Integer.MAX_VALUE;

    public static void main(String[] args) {
        face();
        newObject();
        ways();
        waysAreFull();
        told();
        stones();
        strikeAndOf();
        home();
        snow();
        Due.end();
    }

    private static void face() {
        TreeSet<String> found = new TreeSet<>();
        for (Method m : ReadPass.class.getDeclaredMethods()) {
            if (!Modifier.isPrivate(m.getModifiers()) && !m.isSynthetic()) {
                StringBuilder b = new StringBuilder(Modifier.toString(m.getModifiers()));
                b.append(' ').append(m.getReturnType()).append(' ').append(m.getName()).append('(');
                for (Class<?> c : m.getParameterTypes()) {
                    b.append(c).append(' ');
                }
                found.add(b.append(')').toString());
            }
        }
        String[] due = {
            "at(int int int )", "copy(int int int int int )", "count(int )", "drop(int )",
            "film(int int int int int int )", "home(int )", "image()", "item(int int int long )",
            "next(int )", "of(int int )", "pass()", "read(int int )", "restore()",
            "sheet(int int int )", "shut(int int )", "snow(int )", "stone(int int int )",
            "strike(int )", "struck(int int int )", "told(int int )",
            "track(int int int int int int int )", "type(long int )", "walk(int int int )",
            "way(int int boolean )", "worst(int )"};
        Due.is("number of methods", found.size(), due.length);
        for (String d : due) {
            Due.is("has " + d, found.contains("public int " + d) ? 1 : 0, 1);
        }
        Constructor<?>[] made = ReadPass.class.getDeclaredConstructors();
        Due.is("constructors", made.length, 1);
        Due.is("its parameters", made[0].getParameterCount(), 0);
        Due.is("public", Modifier.isPublic(made[0].getModifiers()) ? 1 : 0, 1);
        Due.is("final", Modifier.isFinal(ReadPass.class.getModifiers()) ? 1 : 0, 1);
        int constants = 0;
        for (Field f : ReadPass.class.getDeclaredFields()) {
            if (!Modifier.isPrivate(f.getModifiers())) {
                constants++;
                Due.is("constant " + f.getName(), f.getModifiers(),
                        Modifier.PUBLIC | Modifier.STATIC | Modifier.FINAL);
            }
        }
        Due.is("constants", constants, 8);
        Due.is("BAD", ReadPass.BAD, -1);
        Due.is("NOT", ReadPass.NOT, -2);
        Due.is("FULL", ReadPass.FULL, -3);
        Due.is("NONE", ReadPass.NONE, -4);
        Due.is("NULL", ReadPass.NULL, -11);
        Due.is("CAST", ReadPass.CAST, -12);
        Due.is("INDEX", ReadPass.INDEX, -13);
        Due.is("SIZE", ReadPass.SIZE, -14);
    }

    private static void newObject() {
        ReadPass x = new ReadPass();
        Due.is("ways", x.count(0), 0);
        Due.is("doubtful", x.count(1), 0);
        Due.is("stones", x.count(2), 0);
        Due.is("home", x.count(3), 7);
        Due.is("snow", x.count(4), 0);
        Due.is("count(5)", x.count(5), -1);
        Due.is("count(-1)", x.count(-1), -1);
        Due.is("count(MIN)", x.count(MIN), -1);
        Due.is("count(MAX)", x.count(MAX), -1);
        for (int p = 0; p < 8; p++) {
            Due.is("of a new stone", x.of(p, 0), -4);
        }
        for (int s = 0; s < 4; s++) {
            Due.is("drop a new sheet", x.drop(s), -11);
        }
    }

    private static void ways() {
        ReadPass x = new ReadPass();
        Due.is("way(8, 0)", x.way(8, 0, false), -1);
        Due.is("way(0, 8)", x.way(0, 8, false), -1);
        Due.is("way(-1, 0)", x.way(-1, 0, false), -1);
        Due.is("way(0, -1)", x.way(0, -1, false), -1);
        Due.is("way(MIN, MAX)", x.way(MIN, MAX, true), -1);
        Due.is("way(3, 3)", x.way(3, 3, false), -1);
        Due.is("way(3, 2)", x.way(3, 2, true), 0);
        Due.is("way(3, 2) again", x.way(3, 2, false), -2);
        Due.is("way(2, 3)", x.way(2, 3, true), -2);
        Due.is("way(3, 3)", x.way(3, 3, false), -1);
        Due.is("way(0, 7)", x.way(0, 7, false), 1);
        Due.is("ways", x.count(0), 2);
        Due.is("doubtful", x.count(1), 1);
    }

    private static void waysAreFull() {
        ReadPass x = new ReadPass();
        for (int b = 1; b < 7; b++) {
            Due.is("doubtful way", x.way(0, b, true), b - 1);
        }
        Due.is("a seventh doubtful", x.way(0, 7, true), -3);
        Due.is("a told pair ahead of FULL", x.way(1, 0, true), -2);
        Due.is("a clear one", x.way(0, 7, false), 6);
        for (int b = 2; b < 7; b++) {
            Due.is("clear way", x.way(1, b, false), b + 5);
        }
        Due.is("a thirteenth", x.way(1, 7, false), -3);
        Due.is("a thirteenth, doubtful", x.way(1, 7, true), -3);
        Due.is("NOT ahead of FULL", x.way(1, 2, false), -2);
        Due.is("BAD ahead of FULL", x.way(1, 1, false), -1);
        Due.is("ways", x.count(0), 12);
        Due.is("doubtful", x.count(1), 63);
        Due.is("told(11, 1)", x.told(11, 1), 6);
    }

    private static void told() {
        ReadPass x = new ReadPass();
        Due.is("told of none", x.told(0, 0), -1);
        x.way(6, 1, false);
        x.way(4, 5, true);
        x.snow(2);
        long[][] due = {{1, 6, 0, 0}, {4, 5, 1, 1}};
        for (int w = 0; w < 2; w++) {
            for (int what = 0; what < 4; what++) {
                Due.is("told(" + w + ", " + what + ")", x.told(w, what), due[w][what]);
            }
            Due.is("told what 4", x.told(w, 4), -1);
            Due.is("told what -1", x.told(w, -1), -1);
        }
        Due.is("told(2, 0)", x.told(2, 0), -1);
        Due.is("told(-1, 0)", x.told(-1, 0), -1);
        Due.is("told(MAX, 0)", x.told(MAX, 0), -1);
        Due.is("told(MIN, 0)", x.told(MIN, 0), -1);
    }

    private static void stones() {
        ReadPass x = new ReadPass();
        x.way(0, 1, false);
        x.way(1, 2, true);
        Due.is("stone at 8", x.stone(8, 0, 0), -1);
        Due.is("stone at -1", x.stone(-1, 0, 0), -1);
        Due.is("side 8", x.stone(0, 8, 0), -1);
        Due.is("side -1", x.stone(0, -1, 0), -1);
        Due.is("about 2", x.stone(0, 1, 2), -1);
        Due.is("about -1", x.stone(0, 1, -1), -1);
        Due.is("BAD ahead of NOT", x.stone(0, 2, 2), -1);
        Due.is("not joined", x.stone(0, 2, 0), -2);
        Due.is("to itself", x.stone(1, 1, 0), -2);
        Due.is("nothing came", x.count(2), 0);
        Due.is("stone(0, 1, 1)", x.stone(0, 1, 1), 1);
        Due.is("stone(2, 1, 0)", x.stone(2, 1, 0), 2);
        Due.is("of(0, 0)", x.of(0, 0), 1);
        Due.is("of(0, 1)", x.of(0, 1), 1);
        Due.is("stone(1, 0, 0)", x.stone(1, 0, 0), 3);
        Due.is("in its place", x.stone(1, 2, 1), 3);
        Due.is("of(1, 0)", x.of(1, 0), 2);
        Due.is("of(1, 1)", x.of(1, 1), 1);
        Due.is("refused", x.stone(1, 3, 0), -2);
        Due.is("of(1, 0) stays", x.of(1, 0), 2);
        Due.is("stones", x.count(2), 3);
    }

    private static void strikeAndOf() {
        ReadPass x = Due.pass("01,12,23;1<0:b,2<3:c,3<2:a");
        Due.is("strike(8)", x.strike(8), -1);
        Due.is("strike(-1)", x.strike(-1), -1);
        Due.is("strike(MIN)", x.strike(MIN), -1);
        Due.is("strike(0)", x.strike(0), -2);
        Due.is("strike(7)", x.strike(7), -2);
        Due.is("strike(2)", x.strike(2), 2);
        Due.is("strike(2) again", x.strike(2), -2);
        Due.is("of(2, 0)", x.of(2, 0), -4);
        Due.is("of(2, 2)", x.of(2, 2), -1);
        Due.is("of(2, -1)", x.of(2, -1), -1);
        Due.is("of(1, 2)", x.of(1, 2), -1);
        Due.is("of(8, 0)", x.of(8, 0), -1);
        Due.is("of(-1, 0)", x.of(-1, 0), -1);
        Due.is("of(33, 0)", x.of(33, 0), -1);
        Due.is("of(1, 0)", x.of(1, 0), 0);
        Due.is("of(1, 1)", x.of(1, 1), 1);
        Due.is("of(3, 0)", x.of(3, 0), 2);
        Due.is("of(3, 1)", x.of(3, 1), 0);
        Due.is("strike(3)", x.strike(3), 1);
        Due.is("strike(1)", x.strike(1), 0);
        Due.is("stones", x.count(2), 0);
    }

    private static void home() {
        ReadPass x = new ReadPass();
        Due.is("home(8)", x.home(8), -1);
        Due.is("home(-1)", x.home(-1), -1);
        Due.is("home stays", x.count(3), 7);
        Due.is("home(0)", x.home(0), 7);
        Due.is("home(0) again", x.home(0), 0);
        Due.is("home(5)", x.home(5), 0);
        Due.is("home", x.count(3), 5);
        Due.is("HOME from 5", x.walk(0, 5, 1), 0);
        Due.is("LOST from 7", x.walk(0, 7, 1), 1);
    }

    private static void snow() {
        ReadPass x = Due.pass("01?,12,23?");
        Due.is("snow(2)", x.snow(2), -1);
        Due.is("snow(3)", x.snow(3), -1);
        Due.is("snow(8)", x.snow(8), -1);
        Due.is("snow(-1)", x.snow(-1), -1);
        Due.is("snow(MIN)", x.snow(MIN), -1);
        Due.is("no snow", x.count(4), 0);
        Due.is("snow(5)", x.snow(5), 0);
        Due.is("snow(4)", x.snow(4), 5);
        Due.is("told(0, 3)", x.told(0, 3), 0);
        Due.is("told(2, 3)", x.told(2, 3), 1);
        Due.is("snow(1 << 12)", x.snow(1 << 12), -1);
        Due.is("snow", x.count(4), 4);
        Due.is("snow(0)", x.snow(0), 4);
    }
}
