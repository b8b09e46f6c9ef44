import java.lang.reflect.Method;
import java.nio.file.Files;
import java.nio.file.Path;
import java.util.List;

/** What README.md shows of the use, with the answers that it tells. */
public final class PuntYardReadme {
    private static final String PAGE = "README.md";
    private static final String SOURCE = "src/test/java/PuntYardReadme.java";
    private static int wrong = 0;

    private static void due(String what, long got, long want) {
        if (got != want) {
            wrong++;
            System.out.println(what + " is " + got + ", README.md says " + want);
        }
    }

    public static void main(String[] args) throws Exception {
        checkAnswers();
        checkPage();
        System.out.println(wrong == 0 ? "README.md tells what is so" : wrong + " faults of README.md");
        if (wrong != 0) {
            System.exit(1);
        }
    }

    static void feed(PuntYard yard, String text) {
        int[] numbers = new int[5];
        for (int at = 0; at < text.length(); at += 20) {
            for (int i = 0; i < 20; i++) {
                int sign = at + i < text.length() ? text.charAt(at + i) : ' ';
                numbers[i / 4] = numbers[i / 4] << 8 | sign;
            }
            yard.feed(numbers[0], numbers[1], numbers[2], numbers[3], numbers[4]);
        }
    }

    private static void checkAnswers() {
        PuntYard yard = new PuntYard();
        String text = "price 0 10 each 30; late 4 each 15 grace 5; rain 50; shut if water < 20;";
        feed(yard, text);
        int law = yard.law(text.length(), 0);
        int boat = yard.boat(0);
        int hire = yard.out(boat, 3, 100, 60);
        int spells = yard.rain(0, 120, 139);
        int came = yard.back(hire, 180);
        int owed = yard.bill(hire, came, 6);
        int mended = yard.mend(hire, 160);
        int owedNow = yard.bill(hire, mended, 6);
        int owedThen = yard.bill(hire, came, 6);
        due("law", law, 0);
        due("boat", boat, 0);
        due("hire", hire, 0);
        due("its telling", yard.hire(hire, 4), 1);
        due("spells", spells, 1);
        due("came", came, 2);
        due("owed", owed, 35);
        due("the price of 80 minutes", yard.bill(hire, came, 2), 30);
        due("late by 20 minutes", yard.bill(hire, came, 3), 8);
        due("less for the rain", yard.bill(hire, came, 4), 3);
        due("mended", mended, 3);
        due("owedNow", owedNow, 17);
        due("the price of 60 minutes", yard.bill(hire, mended, 2), 20);
        due("less for the rain, mended", yard.bill(hire, mended, 4), 3);
        due("owedThen", owedThen, 35);
    }

    // Each line of Java that the page shows stands in this file, so that neither is changed alone.
    private static void checkPage() throws Exception {
        String source = Files.readString(Path.of(SOURCE));
        List<String> page = Files.readAllLines(Path.of(PAGE));
        boolean isJava = false;
        int shown = 0;
        for (String line : page) {
            if (line.startsWith("```")) {
                isJava = line.equals("```java");
            } else if (isJava) {
                String code = line.replaceFirst(" *// .*", "").trim();
                shown++;
                if (!source.contains("    " + code + "\n")) {
                    wrong++;
                    System.out.println("README.md shows what is not tested: " + line);
                }
            }
        }
        if (shown == 0) {
            wrong++;
            System.out.println("README.md shows no use");
        }
        checkFace(String.join("\n", page));
    }

    private static void checkFace(String page) {
        for (Method method : PuntYard.class.getMethods()) {
            boolean isFace = method.getDeclaringClass() == PuntYard.class;
            if (isFace && !page.contains("`" + method.getName() + "`")) {
                wrong++;
                System.out.println("README.md doesn't name " + method.getName());
            }
        }
    }
}
