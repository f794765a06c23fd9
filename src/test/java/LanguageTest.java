import java.io.IOException;
import java.lang.reflect.Field;
import java.lang.reflect.Method;
import java.lang.reflect.Modifier;
import java.nio.charset.StandardCharsets;
import java.nio.file.Files;
import java.nio.file.Path;
import java.util.Arrays;
import java.util.List;
import java.util.Set;
import java.util.TreeSet;
import java.util.regex.Matcher;
import java.util.regex.Pattern;

/** What of LANGUAGE.md can be looked at from outside: the face, words, lengths, the room. */
public final class LanguageTest {
    private static final String FACE =
            "feed5 cut3 level2 key3 name3 named2 edge3 middle3 at3 keyAt3 parent3 child4 common4 neighbour4 around3 "
            + "side3 steps3 way4 reach3 farthest3 corners3 jog3 box6 cover6 between3 wider3 before3 moved5 ask1 "
            + "store3 drop2 piece2 shown3 lacks7 years3 renew2 oldest2 tidy0 changes6 drawn3 bands3 count1 keep0 undo0";
    private static int right = 0;
    private static int wrong = 0;

    public static void main(String[] args) throws IOException {
        Path file = Path.of(args.length > 0 ? args[0] : "src/main/java/SheetNames.java");
        String code = bare(Files.readString(file, StandardCharsets.UTF_8));
        lookAtFace();
        lookAtClasses();
        lookAtWords(code);
        lookAtLengths(code);
        lookAtRoom();
        System.out.println(right + " passed, " + wrong + " failed");
        if (wrong > 0) {
            System.exit(1);
        }
    }

    private static void due(String rule, boolean holds) {
        if (holds) {
            right++;
        } else {
            wrong++;
            System.out.println(rule);
        }
    }

    /** The code without comments, texts and signs. */
    private static String bare(String file) {
        return file.replaceAll("(?s)/\\*.*?\\*/", "").replaceAll("//[^\n]*", "")
                .replaceAll("\"[^\"\n]*\"", "TEXT").replaceAll("'[^'\n]'", "SIGN");
    }

    private static void lookAtFace() {
        Set<String> want = new TreeSet<>(Arrays.asList(FACE.split(" ")));
        Set<String> got = new TreeSet<>();
        for (Method m : SheetNames.class.getDeclaredMethods()) {
            if (Modifier.isPublic(m.getModifiers())) {
                got.add(m.getName() + m.getParameterCount());
                boolean isLong = m.getReturnType() == long.class;
                due("1: what " + m.getName() + " answers", isLong == m.getName().equals("edge"));
            } else {
                due("1: " + m.getName() + " is not private", Modifier.isPrivate(m.getModifiers()));
            }
        }
        due("1: the face is " + got, got.equals(want));
        due("1: one constructor", SheetNames.class.getConstructors().length == 1);
        due("1: final", Modifier.isFinal(SheetNames.class.getModifiers()));
        for (Field f : SheetNames.class.getDeclaredFields()) {
            boolean constant = f.getName().equals("NONE");
            due("1: " + f.getName() + " is seen", constant == Modifier.isPublic(f.getModifiers())
                    && constant != Modifier.isPrivate(f.getModifiers()));
        }
    }

    private static void lookAtClasses() {
        Set<String> faces = new TreeSet<>();
        for (Method m : SheetNames.class.getMethods()) {
            faces.add(m.getName());
        }
        Class<?>[] inside = SheetNames.class.getDeclaredClasses();
        due("11: classes", inside.length + 1 <= 12);
        for (Class<?> c : inside) {
            due("1: " + c + " is static", Modifier.isStatic(c.getModifiers()));
            due("1: " + c + " is not seen", !Modifier.isPublic(c.getModifiers()) && !Modifier.isProtected(c.getModifiers()));
            due("2: " + c + " has none inside", c.getDeclaredClasses().length == 0);
            for (Method m : c.getDeclaredMethods()) {
                due("1: " + c + " has " + m.getName(), !faces.contains(m.getName()));
            }
        }
        List<Class<?>> all = new java.util.ArrayList<>(Arrays.asList(inside));
        all.add(SheetNames.class);
        for (Class<?> c : all) {
            int fields = 0;
            for (Field f : c.getDeclaredFields()) {
                fields += Modifier.isStatic(f.getModifiers()) ? 0 : 1;
                due("5: " + f, !Modifier.isStatic(f.getModifiers()) || Modifier.isFinal(f.getModifiers()));
            }
            due("11: fields of " + c, fields <= 20);
        }
    }

    private static void lookAtWords(String code) {
        String[] never = {"import", "package", "throw", "throws", "try", "catch", "finally", "synchronized", "assert",
            "instanceof", "record", "goto", "native", "volatile", "transient", "double", "float", "protected",
            "System\\.(?!arraycopy)\\w*", "Arrays\\.", "Math\\.(?!floorDiv|floorMod|min|max|abs)\\w+", "\\w+Exact",
            "Integer\\.(?!compare)\\w+", "Long\\.(?!compare)\\w+", "toString", "hashCode", "equals", "Object", "var"};
        for (String word : never) {
            Matcher m = Pattern.compile("\\b" + word).matcher(code);
            boolean found = false;
            while (m.find()) {
                int end = m.end();
                boolean whole = end >= code.length() || !Character.isJavaIdentifierPart(code.charAt(end));
                found |= whole || word.endsWith(".");
            }
            due("4, 6: " + word, !found);
        }
        due("2: no lambda", !code.contains("->") && !code.contains("::"));
        due("10: no text is joined by +", !code.contains("TEXT +") && !code.contains("+ TEXT"));
        due("4: signs are 1 to 127", code.chars().allMatch(sign -> sign >= 1 && sign <= 127));
    }

    private static void lookAtLengths(String code) {
        String[] lines = code.split("\n");
        int from = -1;
        String indent = "";
        for (int i = 0; i < lines.length; i++) {
            Matcher head = Pattern.compile("( +)[\\w\\[\\] ]+\\(([^()]*)\\) \\{").matcher(lines[i]);
            boolean method = head.matches() && !lines[i].trim().matches("(if|for|while|switch|return|\\}).*");
            if (method && from < 0) {
                from = i;
                indent = head.group(1);
                due("11: parameters of" + lines[i], head.group(2).split(",").length <= 7);
            }
            if (from >= 0 && lines[i].equals(indent + "}")) {
                due("11: lines of" + lines[from], i - from + 1 <= 60);
                from = -1;
            }
        }
        due("11: a method ends", from < 0);
    }

    /** What the dearest calls make: far from the room's 7.3 million fields of 4 bytes or more. */
    private static void lookAtRoom() {
        com.sun.management.ThreadMXBean threads =
                (com.sun.management.ThreadMXBean) java.lang.management.ManagementFactory.getThreadMXBean();
        long ahead = threads.getThreadAllocatedBytes(Thread.currentThread().getId());
        SheetNames x = new SheetNames();
        x.cut(1, 3, 3);
        for (int i = 0; i < 128; i++) {
            x.steps(i % 2, i, 2 * i);
            x.keep();
            x.cover(0, 28000, 0, 400000, 3, i);
            x.undo();
        }
        long made = threads.getThreadAllocatedBytes(Thread.currentThread().getId()) - ahead;
        due("12: " + made + " bytes are made", made < 1000000);
    }
}
