import java.lang.reflect.Constructor;
import java.lang.reflect.Field;
import java.lang.reflect.Method;
import java.lang.reflect.Modifier;
import java.util.HashMap;
import java.util.HashSet;
import java.util.Map;
import java.util.Set;

/** The public face: the signatures of the document, its constants' values, and nothing beside them. */
public final class FaceTest {

    private static final String[] METHODS = {
        "int hall(int,int) IllegalArgumentException,IllegalStateException",
        "int lamp(int,int,boolean) IndexOutOfBoundsException,IllegalArgumentException",
        "int film(int,int,int) IllegalArgumentException,IllegalStateException",
        "void terms(int,int,int,int,int,int) IndexOutOfBoundsException,IllegalArgumentException",
        "int key(int,int,int,int) IndexOutOfBoundsException,IllegalArgumentException,IllegalStateException",
        "int spread(int) IllegalArgumentException",
        "int show(int,int,int) IndexOutOfBoundsException,IllegalArgumentException,IllegalStateException",
        "int cancel(int) IndexOutOfBoundsException,IllegalStateException",
        "int breaks(int) IndexOutOfBoundsException,IllegalStateException",
        "int pass(int) IllegalArgumentException,IllegalStateException",
        "int hold(int,int,int,int) IndexOutOfBoundsException,IllegalArgumentException,IllegalStateException",
        "int letGo(int) IndexOutOfBoundsException,IllegalStateException",
        "int buy(int,int) IndexOutOfBoundsException,IllegalArgumentException,IllegalStateException",
        "int sell(int,int,int,int) IndexOutOfBoundsException,IllegalArgumentException,IllegalStateException",
        "int group(int,int,int) IndexOutOfBoundsException,IllegalArgumentException,IllegalStateException",
        "int giveBack(int) IndexOutOfBoundsException,IllegalStateException",
        "int join(int,int,boolean) IndexOutOfBoundsException,IllegalArgumentException,IllegalStateException",
        "int fits(int,int,int) IndexOutOfBoundsException,IllegalArgumentException",
        "int first(int,int,int) IndexOutOfBoundsException,IllegalArgumentException",
        "int price(int,int) IndexOutOfBoundsException,IllegalArgumentException",
        "int seat(int,int,int) IndexOutOfBoundsException",
        "int ofShow(int,int) IndexOutOfBoundsException",
        "int ofTicket(int,int) IndexOutOfBoundsException",
        "int ofHall(int,int) IndexOutOfBoundsException",
        "int takings(int,int) IndexOutOfBoundsException,IllegalArgumentException",
        "int takingsAnew(int,int) IndexOutOfBoundsException,IllegalArgumentException",
        "int share(int,int) IndexOutOfBoundsException,IllegalArgumentException",
        "boolean mustStay(int,int) IndexOutOfBoundsException,IllegalArgumentException",
        "int audit(int,int) IndexOutOfBoundsException,IllegalArgumentException",
        "int all(int) IndexOutOfBoundsException",
    };

    private static int wrong = 0;

    private static void need(boolean holds, String what) {
        if (!holds) {
            wrong++;
            System.out.println(what);
        }
    }

    private static String names(Class<?>[] types) {
        StringBuilder text = new StringBuilder();
        for (Class<?> type : types) {
            text.append(text.length() == 0 ? "" : ",").append(type.getSimpleName());
        }
        return text.toString();
    }

    private static void checkMethods() {
        Set<String> due = new HashSet<>();
        Set<String> names = new HashSet<>();
        for (String method : METHODS) {
            due.add(method);
            names.add(method.substring(method.indexOf(' ') + 1, method.indexOf('(')));
        }
        for (Method m : Platterhouse.class.getDeclaredMethods()) {
            boolean isPrivate = Modifier.isPrivate(m.getModifiers());
            String text = m.getReturnType().getSimpleName() + " " + m.getName() + "("
                    + names(m.getParameterTypes()) + ") " + names(m.getExceptionTypes());
            if (isPrivate) {
                need(!names.contains(m.getName()), "private method with a public name: " + text);
            } else {
                need(due.remove(text), "not of the face: " + text);
                need(m.getModifiers() == Modifier.PUBLIC, "not simply public: " + text);
            }
        }
        for (String method : due) {
            need(false, "missing: " + method);
        }
    }

    private static void checkFields() throws IllegalAccessException {
        Map<String, Integer> due = new HashMap<>();
        due.put("NONE", -1);
        due.put("PLANNED", 0);
        due.put("RUNNING", 1);
        due.put("OVER", 2);
        due.put("BROKEN", 3);
        due.put("CANCELLED", 4);
        for (Field f : Platterhouse.class.getDeclaredFields()) {
            int m = f.getModifiers();
            need(!Modifier.isStatic(m) || Modifier.isFinal(m), "static but not final: " + f.getName());
            if (!Modifier.isPrivate(m)) {
                Integer value = due.remove(f.getName());
                need(value != null && m == (Modifier.PUBLIC | Modifier.STATIC | Modifier.FINAL)
                        && f.getType() == int.class && f.getInt(null) == value, "constant: " + f.getName());
            }
        }
        need(due.isEmpty(), "constants missing: " + due.keySet());
    }

    public static void main(String[] args) throws IllegalAccessException {
        int modifiers = Platterhouse.class.getModifiers();
        need(modifiers == (Modifier.PUBLIC | Modifier.FINAL), "the class is not public and final");
        Constructor<?>[] made = Platterhouse.class.getDeclaredConstructors();
        need(made.length == 1 && made[0].getParameterCount() == 0
                && Modifier.isPublic(made[0].getModifiers()), "not the one public constructor");
        checkMethods();
        checkFields();
        for (Class<?> inside : Platterhouse.class.getDeclaredClasses()) {
            int m = inside.getModifiers();
            need(Modifier.isStatic(m) && !Modifier.isPublic(m) && !Modifier.isProtected(m),
                    "class inside: " + inside.getName());
        }
        System.out.println(wrong == 0 ? "the face is as due" : wrong + " things are not as due");
        if (wrong != 0) {
            System.exit(1);
        }
    }
}
