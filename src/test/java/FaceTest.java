import java.lang.reflect.Field;
import java.lang.reflect.Member;
import java.lang.reflect.Method;
import java.lang.reflect.Modifier;
import java.util.ArrayList;
import java.util.Arrays;
import java.util.Collections;
import java.util.HashSet;
import java.util.List;
import java.util.Set;

/** The public face: just what the document lists, with its types, exceptions and values. */
public final class FaceTest {
    private static final String I = "IndexOutOfBoundsException";
    private static final String A = "IllegalArgumentException";
    private static final String S = "IllegalStateException";

    private static final String[] METHODS = {
        "int shore(int,int) " + I + " " + A + " " + S,
        "int depth(int,int) " + I + " " + A + " " + S,
        "int wind(int,int) " + A,
        "int ship(int,int) " + I + " " + A + " " + S,
        "int hole(int,int) " + I + " " + A,
        "int pump(int,int,int) " + I + " " + A + " " + S,
        "int shipHas(int) " + I,
        "int pass(int) " + A + " " + S,
        "int at(int,int) " + I + " " + A,
        "int boom(int,int,int) " + I + " " + A + " " + S,
        "int skimmer(int,int,int) " + I + " " + A + " " + S,
        "int team(int,boolean) " + A + " " + S,
        "int move(int,int) " + I + " " + S,
        "int carry(int) " + I + " " + S,
        "boolean teach(int) " + I + " " + S,
        "int clean(int,int) " + I + " " + S,
        "int meanIs(int,int) " + I + " " + A,
        "int use(int,int) " + I + " " + A + " " + S,
        "int why(int,int,int) " + I + " " + A + " " + S,
        "int birds(int,int) " + I + " " + A + " " + S,
        "int wash(int,int) " + I + " " + A + " " + S,
        "boolean sign(int,int) " + I + " " + A + " " + S,
        "int site(int,int) " + A + " " + S,
        "int deliver(int,int,int) " + I + " " + A + " " + S,
        "int waste(int) " + A,
        "int claim(int) " + A + " " + S,
        "int layers(int,int) " + A,
        "int due(int,int) " + I + " " + A,
        "int ahead(int,int) " + I + " " + A,
        "int nextAnew(int) " + I,
        "int sum(int) " + A,
    };

    public static void main(String[] args) {
        constants();
        members();
        Check.end();
    }

    /**
     * Terms: "NONE = -1: None.", "WATER = 0, ROCK = 1, SAND = 2, MARSH = 3: What a CELL is.", "EAST = 0, WEST = 1,
     * SOUTH = 2, NORTH = 3: Ways.", "BOOM = 0, SKIMMER = 1, TEAM = 2: What means are.", "DISPERSING = 0, BURNING = 1:
     * What may be against rules.", "LIQUID = 0, SOLID = 1: Waste."
     */
    private static void constants() {
        Check.is("NONE", Slickboom.NONE, -1);
        Check.is("WATER", Slickboom.WATER, 0);
        Check.is("ROCK", Slickboom.ROCK, 1);
        Check.is("SAND", Slickboom.SAND, 2);
        Check.is("MARSH", Slickboom.MARSH, 3);
        Check.is("EAST", Slickboom.EAST, 0);
        Check.is("WEST", Slickboom.WEST, 1);
        Check.is("SOUTH", Slickboom.SOUTH, 2);
        Check.is("NORTH", Slickboom.NORTH, 3);
        Check.is("BOOM", Slickboom.BOOM, 0);
        Check.is("SKIMMER", Slickboom.SKIMMER, 1);
        Check.is("TEAM", Slickboom.TEAM, 2);
        Check.is("DISPERSING", Slickboom.DISPERSING, 0);
        Check.is("BURNING", Slickboom.BURNING, 1);
        Check.is("LIQUID", Slickboom.LIQUID, 0);
        Check.is("SOLID", Slickboom.SOLID, 1);
    }

    private static void members() {
        Check.is("the class is public and final",
                Slickboom.class.getModifiers() & (Modifier.PUBLIC | Modifier.FINAL), Modifier.PUBLIC | Modifier.FINAL);
        Check.is("one constructor", Slickboom.class.getDeclaredConstructors().length, 1);
        Check.is("a public one", Slickboom.class.getConstructors().length, 1);
        List<String> found = new ArrayList<>();
        Set<String> publicNames = new HashSet<>();
        Set<String> privateNames = new HashSet<>();
        for (Method method : Slickboom.class.getDeclaredMethods()) {
            if (Modifier.isPublic(method.getModifiers())) {
                found.add(text(method));
                publicNames.add(method.getName());
            } else {
                Check.is(method + " is private", isPrivate(method), true);
                privateNames.add(method.getName());
            }
        }
        List<String> due = new ArrayList<>(Arrays.asList(METHODS));
        Collections.sort(found);
        Collections.sort(due);
        Check.is("the public methods", found.toString(), due.toString());
        privateNames.retainAll(publicNames);
        Check.is("private methods with public names", privateNames.toString(), "[]");
        int constants = 0;
        for (Field field : Slickboom.class.getDeclaredFields()) {
            if (Modifier.isPublic(field.getModifiers())) {
                constants++;
                Check.is(field + " is a constant", Modifier.isStatic(field.getModifiers())
                        && Modifier.isFinal(field.getModifiers()) && field.getType() == int.class, true);
            } else {
                Check.is(field + " is private", isPrivate(field), true);
            }
        }
        Check.is("public constants", constants, 16);
    }

    private static boolean isPrivate(Member member) {
        return Modifier.isPrivate(member.getModifiers());
    }

    private static String text(Method method) {
        StringBuilder text = new StringBuilder();
        text.append(method.getReturnType().getName()).append(' ').append(method.getName()).append('(');
        for (int i = 0; i < method.getParameterCount(); i++) {
            text.append(i == 0 ? "" : ",").append(method.getParameterTypes()[i].getName());
        }
        text.append(')');
        for (Class<?> thrown : method.getExceptionTypes()) {
            text.append(' ').append(thrown.getSimpleName());
        }
        return text.toString();
    }
}
