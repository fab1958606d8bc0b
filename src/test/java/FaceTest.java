import java.io.IOException;
import java.lang.reflect.Constructor;
import java.lang.reflect.Executable;
import java.lang.reflect.Field;
import java.lang.reflect.Method;
import java.lang.reflect.Modifier;
import java.nio.file.Files;
import java.nio.file.Path;
import java.util.Arrays;
import java.util.TreeSet;
import java.util.regex.Matcher;
import java.util.regex.Pattern;

/** The face of the class, and what ../shared/LANGUAGE.md forbids that can be seen without reading the program. */
public final class FaceTest {
    private static final String[] FACE = {
        "Tillhouse()",
        "int put(int,long,int) IndexOutOfBoundsException IllegalArgumentException",
        "int type(char) IllegalStateException",
        "int fault()",
        "int read(int) IndexOutOfBoundsException IllegalArgumentException ArithmeticException",
        "int wipe()",
        "long unscaled(int) IndexOutOfBoundsException NoSuchElementException",
        "int scale(int) IndexOutOfBoundsException NoSuchElementException",
        "int precision(int) IndexOutOfBoundsException NoSuchElementException",
        "int join(int,int,char,int) IndexOutOfBoundsException IllegalArgumentException NoSuchElementException ArithmeticException",
        "int turn(int,char,int) IndexOutOfBoundsException IllegalArgumentException NoSuchElementException ArithmeticException",
        "int move(int,int,int) IndexOutOfBoundsException IllegalArgumentException NoSuchElementException ArithmeticException",
        "int setScale(int,int,char,int) IndexOutOfBoundsException IllegalArgumentException NoSuchElementException ArithmeticException",
        "int round(int,int,char,int) IndexOutOfBoundsException IllegalArgumentException NoSuchElementException ArithmeticException",
        "int divide(int,int,int,char,int) IndexOutOfBoundsException IllegalArgumentException NoSuchElementException ArithmeticException",
        "int divideExactly(int,int,int) IndexOutOfBoundsException NoSuchElementException ArithmeticException",
        "int compare(int,int) IndexOutOfBoundsException NoSuchElementException",
        "boolean isEqual(int,int) IndexOutOfBoundsException NoSuchElementException",
        "int setCurrency(int,int,char,int) IndexOutOfBoundsException IllegalArgumentException",
        "boolean setRate(int,int,int) IndexOutOfBoundsException IllegalArgumentException NoSuchElementException ArithmeticException",
        "long change(int,int,long) IndexOutOfBoundsException IllegalArgumentException NoSuchElementException ArithmeticException",
        "long lost(int,int,long) IndexOutOfBoundsException IllegalArgumentException NoSuchElementException ArithmeticException",
        "int setTax(int,int,int) IndexOutOfBoundsException IllegalArgumentException",
        "int tax(int,int) IndexOutOfBoundsException IllegalArgumentException",
        "int setDiscount(int,int,int) IndexOutOfBoundsException IllegalArgumentException",
        "int open(int,int,boolean) IndexOutOfBoundsException IllegalArgumentException IllegalStateException",
        "int line(int,int,int,int) IndexOutOfBoundsException IllegalArgumentException UnsupportedOperationException IllegalStateException",
        "long netOfLine(int,int) IndexOutOfBoundsException ArithmeticException",
        "long net(int) IndexOutOfBoundsException ArithmeticException",
        "long taxOf(int) IndexOutOfBoundsException ArithmeticException",
        "long cash(int) IndexOutOfBoundsException ArithmeticException",
        "int weigh(int) IllegalArgumentException IllegalStateException",
        "int share(long,char) IllegalArgumentException UnsupportedOperationException",
        "long part(int) NoSuchElementException",
        "long interest(long,int,int,int,char) IllegalArgumentException ArithmeticException",
        "int lend(long,int,long) IllegalArgumentException UnsupportedOperationException IllegalStateException",
        "long instalment(int,char) IllegalArgumentException NoSuchElementException",
        "int post(int,int,int,long) IndexOutOfBoundsException IllegalArgumentException UnsupportedOperationException IllegalStateException",
        "int book(int) IndexOutOfBoundsException UnsupportedOperationException NoSuchElementException ArithmeticException IllegalStateException",
        "boolean isBooked(int) IndexOutOfBoundsException",
        "long side(int,int,boolean) IndexOutOfBoundsException IllegalArgumentException",
        "int nextAccount(int) NoSuchElementException",
        "int shut(int) IllegalArgumentException UnsupportedOperationException",
        "int undo() NoSuchElementException UnsupportedOperationException",
        "boolean isSound()"};

    /** Words, and signs, that stand nowhere in the program. */
    private static final String[] FORBIDDEN = {"->", "::", "synchronized", "assert", "finally", "volatile", "BigDecimal",
        "BigInteger", "System.out", "getMessage", "hashCode", "NaN", "Random", "Exact(", "NullPointerException",
        "ArrayIndexOutOfBoundsException", "ClassCastException", "NegativeArraySizeException", "ArrayStoreException"};

    private static int wrong = 0;

    public static void main(String[] args) throws IOException {
        checkMembers();
        checkInnerClasses();
        checkSource(Files.readString(Path.of("src/main/java/Tillhouse.java")));
        if (wrong > 0) {
            System.exit(1);
        }
    }

    private static void due(boolean isSo, String what) {
        if (!isSo) {
            wrong++;
            System.out.println("FaceTest: " + what);
        }
    }

    private static TreeSet<String> publicNames() {
        TreeSet<String> names = new TreeSet<>();
        for (Method method : Tillhouse.class.getMethods()) {
            names.add(method.getName());
        }
        return names;
    }

    private static void checkMembers() {
        int modifiers = Tillhouse.class.getModifiers();
        due(Modifier.isPublic(modifiers) && Modifier.isFinal(modifiers), "the class is public and final");
        TreeSet<String> open = new TreeSet<>();
        for (Constructor<?> constructor : Tillhouse.class.getDeclaredConstructors()) {
            open.add(told("Tillhouse", constructor));
        }
        for (Method method : Tillhouse.class.getDeclaredMethods()) {
            if (!Modifier.isPrivate(method.getModifiers())) {
                due(Modifier.isPublic(method.getModifiers()), method + " is public");
                open.add(told(method.getReturnType() + " " + method.getName(), method));
            }
        }
        due(open.equals(new TreeSet<>(Arrays.asList(FACE))), "the face is that of the document, not " + open);
        for (Method method : Tillhouse.class.getDeclaredMethods()) {
            boolean isPrivate = Modifier.isPrivate(method.getModifiers());
            due(!isPrivate || !publicNames().contains(method.getName()), method + " bears a name of its own");
        }
        for (Field field : Tillhouse.class.getDeclaredFields()) {
            due(Modifier.isPrivate(field.getModifiers()), field + " is private");
            due(!Modifier.isStatic(field.getModifiers()) || Modifier.isFinal(field.getModifiers()), field + " is final");
        }
    }

    private static String told(String name, Executable member) {
        StringBuilder told = new StringBuilder(name + "(");
        for (Class<?> type : member.getParameterTypes()) {
            told.append(told.charAt(told.length() - 1) == '(' ? "" : ",").append(type.getName());
        }
        told.append(")");
        for (Class<?> thrown : member.getExceptionTypes()) {
            told.append(" ").append(thrown.getSimpleName());
        }
        return told.toString();
    }

    private static void checkInnerClasses() {
        Class<?>[] inner = Tillhouse.class.getDeclaredClasses();
        due(inner.length < 12, "at most twelve classes");
        for (Class<?> each : inner) {
            due(!Modifier.isPublic(each.getModifiers()), each + " is not public");
            due(Modifier.isStatic(each.getModifiers()), each + " is static");
            for (Method method : each.getDeclaredMethods()) {
                due(!publicNames().contains(method.getName()), method + " bears a name of its own");
            }
            for (Field field : each.getDeclaredFields()) {
                due(!Modifier.isStatic(field.getModifiers()) || Modifier.isFinal(field.getModifiers()), field + " is final");
            }
        }
    }

    private static void checkSource(String source) {
        for (String word : FORBIDDEN) {
            due(!source.contains(word), "no " + word);
        }
        Matcher imports = Pattern.compile("import (\\S+);").matcher(source);
        while (imports.find()) {
            due(Pattern.matches("java\\.util\\.(Arrays|ArrayList|List|Iterator|NoSuchElementException)", imports.group(1)),
                imports.group() + " is not allowed");
        }
        due(source.chars().allMatch(sign -> sign == '\n' || sign >= 32 && sign < 127), "plain signs");
    }
}
