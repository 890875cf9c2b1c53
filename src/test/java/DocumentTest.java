import java.io.IOException;
import java.lang.reflect.Field;
import java.lang.reflect.Method;
import java.lang.reflect.Modifier;
import java.nio.file.Files;
import java.nio.file.Path;
import java.util.ArrayList;
import java.util.Arrays;
import java.util.List;
import java.util.stream.Collectors;

/**
 * The document from its first line to its last: each sentence in its own words, with runs of calls (told as Desk
 * says) whose answers were worked out by hand from that sentence. At the end the sentences together are held against
 * ../shared/DOC.md, so that none is left out and none is told otherwise than it stands there.
 */
public final class DocumentTest {
    private static final Path DOCUMENT = Path.of("../shared/DOC.md");
    private static final Path SOURCE = Path.of("src/main/java/WarmFloor.java");

    /** Without FLOW and SOAK each CELL stays as it is but for DIALS. */
    private static final String STILL = "set 1 0 | set 2 0 | ";
    /** A REAL DIAL in CELL 0 that gives to this CELL alone. */
    private static final String ONE = STILL + "dial 0 0 200 | tune 0 1 1 | ";
    /** One who is COLD by 100 all the DAY; he sits far from what is done. */
    private static final String COLD = STILL + "person 23 300 300 | ";

    private static final List<String> told = new ArrayList<>();
    private static int wrong = 0;
    private static int runs = 0;
    private static String sentence = "";

    public static void main(String[] args) throws IOException {
        whatItIs();
        face();
        termsOfTheFloor();
        termsOfPersons();
        termsOfDialsAndSheets();
        acts();
        warmthInAStep();
        machinesInAStep();
        costAndPoints();
        harmsAndFights();
        theBest();
        votes();
        mondaysAndSpans();
        refusals();
        headings();
        promisesOfTheFloor();
        promisesOfPersonsAndDials();
        promisesOfARun();
        promisesOfHarms();
        promisesOfTheBest();
        promisesOfVotes();
        promisesOfSheets();
        promisesOfItems();
        promisesOfCounts();
        notPromised();
        holdAgainstTheDocument();
        readme();
        System.out.println(told.size() + " sentences, " + runs + " runs: "
            + (wrong == 0 ? "all answers are as due" : wrong + " answers are not as due"));
        if (wrong != 0) {
            System.exit(1);
        }
    }

    // ---- how a sentence is told

    private static void due(String call, long got, long want) {
        if (got != want) {
            wrong++;
            System.out.println("'" + sentence + "': " + call + " answered " + got + ", due is " + want);
        }
    }

    /** A sentence that tells of no answer by itself. */
    private static void prose(String text) {
        sentence = text;
        told.add(text);
    }

    private static void says(String text, String... someRuns) {
        prose(text);
        for (String run : someRuns) {
            runs++;
            new Desk(DocumentTest::due).plays(run);
        }
    }

    private static void promise(int number, String name, String call) {
        prose("## Promise " + number + ": " + name);
        prose(call);
    }

    /** A call for each number from one to another, which comes in the place of #. */
    private static String each(String call, int from, int to) {
        List<String> calls = new ArrayList<>();
        for (int i = from; i <= to; i++) {
            calls.add(call.replace("#", String.valueOf(i)));
        }
        return String.join(" | ", calls);
    }

    private static String plain(String text) {
        return text.replaceAll("(?m)^```.*$", " ").replaceAll("\\s+", " ").trim();
    }

    private static void holdAgainstTheDocument() throws IOException {
        sentence = "the whole document";
        String document = plain(Files.readString(DOCUMENT));
        String here = plain(String.join(" ", told));
        int at = 0;
        while (at < document.length() && at < here.length() && document.charAt(at) == here.charAt(at)) {
            at++;
        }
        if (!document.equals(here)) {
            wrong++;
            System.out.println("the document goes on: '" + document.substring(at, Math.min(document.length(), at + 120))
                + "', this test: '" + here.substring(at, Math.min(here.length(), at + 120)) + "'");
        }
    }

    /** README.md's example answers what is told beside it. */
    private static void readme() {
        sentence = "README.md";
        runs++;
        new Desk(DocumentTest::due).plays("person 0 210 220 = 0 | dial 3 0 0 = 0 | habits 0 k1:0+;w0:0- | fault 0 = NONE"
            + " | warmth 40 0 0 = 214 | all 0 1 = 3988 | worth 0 = 788");
    }

    // ---- what it is, and the face

    private static void whatItIs() {
        prose("# WarmFloor");
        prose("## What it is");
        prose("Too warm by the window: a floor of cells with walls and stone, people in seats with spans that they like, "
            + "dials that are joined to machines, to nothing, fans that make it colder for one and warmer for the next, "
            + "hidden heaters, cards over grilles, windows; habits as texts, what is found out; steps exactly; "
            + "what each one's acts do to the others, dials that fight, rings of acts; best settings for a purse, "
            + "best seats, where to feel, what a false dial is worth; votes and what is gained by pressing otherwise; "
            + "when to begin on a Monday; what a span must be by what was done.");
        says("======== 1 THE FLOOR has CELLS 0 to 23, six in a row, four rows;",
            each("warmth 0 # 0 = 200", 0, 23) + " | warmth 0 -1 0 = BAD | warmth 0 24 0 = BAD",
            "dial 0 17 200 | tune 0 1 1 = 258048");
        says("NEIGHBOURS are beside one another in a row, or above one another, with no WALL between them.",
            "set 2 0 | cell 8 0 300 | warmth 1 8 0 = 260 | warmth 1 7 0 = 210 | warmth 1 9 0 = 210 | warmth 1 2 0 = 210"
                + " | warmth 1 14 0 = 210 | warmth 1 1 0 = 200 | warmth 1 3 0 = 200 | warmth 1 13 0 = 200 | warmth 1 15 0 = 200",
            "set 2 0 | cell 5 0 300 | warmth 1 6 0 = 200 | warmth 1 5 0 = 280",
            "set 2 0 | cell 0 0 300 | wall 0 1 true | warmth 1 1 0 = 200 | warmth 1 6 0 = 210 | warmth 1 0 0 = 290",
            "set 2 0 | cell 0 0 300 | wall 0 6 true | warmth 1 6 0 = 200 | warmth 1 1 0 = 210 | warmth 1 0 0 = 290");
        says("An object is used for at most 512 calls after it has been made; what later calls answer is free.",
            each("cell 7 0 #", 1, 400) + " | " + each("cell 8 0 #", 1, 110) + " | warmth 0 7 0 = 400 | warmth 0 8 0 = 110");
    }

    private static void face() {
        prose("## The public face");
        prose("public final class WarmFloor {");
        int type = WarmFloor.class.getModifiers();
        due("public and final", Modifier.isPublic(type) && Modifier.isFinal(type) ? 1 : 0, 1);
        prose("public static final int NONE = -1, BAD = -2, NOT = -3, FULL = -4;");
        due("NONE", WarmFloor.NONE, -1);
        due("BAD", WarmFloor.BAD, -2);
        due("NOT", WarmFloor.NOT, -3);
        due("FULL", WarmFloor.FULL, -4);
        due("constants", Arrays.stream(WarmFloor.class.getFields()).filter(DocumentTest::isConstant).count(), 4);
        prose("public WarmFloor();");
        due("constructors", WarmFloor.class.getDeclaredConstructors().length, 1);
        due("public ones", WarmFloor.class.getConstructors().length, 1);
        String[] calls = {"int cell(int cell, int what, int v)", "int read(int s, int cell)", "int wall(int a, int b, boolean is)",
            "int set(int what, int v)", "int person(int cell, int low, int high)", "int seat(int person, int cell)",
            "int type(int person, int b)", "int wipe(int person)", "int fault(int person)",
            "int dial(int kind, int cell, int number)", "int tune(int dial, int what, int v)",
            "int warmth(int step, int cell, int what)", "int number(int step, int dial)",
            "int did(int step, int person, int what)", "int all(int person, int what)", "int run(int what)",
            "int harm(int person, int other)", "int fight(int a, int b)", "int leads(int person, int other)", "int ring()",
            "int best(int purse, int what)", "int seats(int seat)", "int feel(int dial)", "int worth(int dial)",
            "int vote(int s, int dial, int rule)", "int gain(int s, int dial, int rule, int person)",
            "int monday(int dial, int cell, int warmth, int t)", "int span(int s, int what)",
            "int sheet(int s, int form, int n)", "int lose(int s)", "int lay(int s, int form, int i, int v)",
            "int get(int s, int form, int i)", "int copy(int s, int i, int t, int j, int n)", "int write(int step, int s)",
            "int count(int what)", "long digest()"};
        for (String call : calls) {
            prose("public " + call + ";");
            due("calls like this", methods().stream().filter(m -> isLike(m, call)).count(), 1);
        }
        prose("}");
        due("calls", methods().size(), calls.length);
    }

    private static boolean isConstant(Field field) {
        int m = field.getModifiers();
        return Modifier.isStatic(m) && Modifier.isFinal(m) && field.getType() == int.class;
    }

    private static List<Method> methods() {
        return Arrays.stream(WarmFloor.class.getDeclaredMethods()).filter(m -> !Modifier.isPrivate(m.getModifiers())).toList();
    }

    private static boolean isLike(Method m, String call) {
        String types = Arrays.stream(m.getParameterTypes()).map(Class::getSimpleName).collect(Collectors.joining(", "));
        String due = call.replaceAll("(int|boolean) \\w+([,)])", "$1$2");
        return m.getModifiers() == Modifier.PUBLIC && (m.getReturnType() + " " + m.getName() + "(" + types + ")").equals(due);
    }

    // ---- terms

    private static void termsOfTheFloor() {
        prose("## Terms");
        says("WARMTH of a CELL is in tenths (at the beginning, 0 to 400; 200 at first), its STONE too (likewise).",
            "cell 0 0 0 = 200 | cell 0 0 400 = 0 | cell 0 0 401 = BAD | cell 0 0 -1 = BAD | warmth 0 0 0 = 400",
            "cell 0 1 0 = 200 | cell 0 1 400 = 0 | cell 0 1 401 = BAD | cell 0 1 -1 = BAD | warmth 0 0 1 = 400");
        says("OUT is a warmth (-200 to 400; 100 at first).",
            "set 0 -200 = 100 | set 0 400 = -200 | set 0 401 = BAD | set 0 -201 = BAD | count 3 = 400");
        says("LAWS: 0 FLOW (0 to 20; 10 at first), 1 SOAK (0 to 20; 5), 2 POWER (0 to 30; 10), 3 TOUCH (0 to 20; 5), "
            + "4 TRIES (1 to 60; 3).",
            "set 1 0 = 10 | set 1 20 = 0 | set 1 21 = BAD | set 1 -1 = BAD | set 1 10 = 20",
            "set 2 0 = 5 | set 2 20 = 0 | set 2 21 = BAD | set 2 -1 = BAD | set 2 5 = 20",
            "set 3 0 = 10 | set 3 30 = 0 | set 3 31 = BAD | set 3 -1 = BAD | set 3 10 = 30",
            "set 4 0 = 5 | set 4 20 = 0 | set 4 21 = BAD | set 4 -1 = BAD | set 4 5 = 20",
            "set 5 1 = 3 | set 5 60 = 1 | set 5 61 = BAD | set 5 0 = BAD | set 5 3 = 60");
    }

    private static void termsOfPersons() {
        String one = "person 0 0 400 | ";
        says("PERSONS, 6 at most, are in a CELL (their SEAT; several may share one), like it from a warmth to another "
            + "(0 to 400, the second not less), and have HABITS: a text of up to 40 bytes: parts with ; between them: "
            + "k or w, a number (one to three figures), :, a DIAL (one figure, 0 to 7), and + or -.",
            each("person 5 200 #", 200, 205) + " | person 5 200 210 = FULL | count 0 = 6 | seat 0 5 = 5 | seat 5 5 = 5",
            "person 0 0 0 = 0 | person 0 400 400 = 1 | person 0 0 400 = 2 | person 0 201 200 = BAD | person 0 -1 5 = BAD"
                + " | person 0 5 401 = BAD",
            one + each("type 0 107 = #", 1, 40) + " | type 0 107 = FULL | count 4 = 40",
            one + "habits 0 k0:0+;w99:7-;k999:3+ | fault 0 = NONE",
            one + "habits 0 k0:0+;w99:7-;k999:3+;k12:6-;w1:1+;w10:2- | count 4 = 40 | fault 0 = NONE",
            one + "habits 0 K0:0+ | fault 0 = 0", one + "habits 0 k:0+ | fault 0 = 1", one + "habits 0 k0000:0+ | fault 0 = 4",
            one + "habits 0 k00;0+ | fault 0 = 3", one + "habits 0 k0:8+ | fault 0 = 3", one + "habits 0 k0:00+ | fault 0 = 4",
            one + "habits 0 k0:0* | fault 0 = 4", one + "habits 0 k0:0+,k0:0+ | fault 0 = 5");
        says("The FAULT is the place of the first byte with which it cannot go on (an empty text is well).",
            one + "fault 0 = NONE", one + "habits 0 xk0:0+x | fault 0 = 0", one + "habits 0 k0:0+;k | fault 0 = 7",
            one + "habits 0 k0:0+; | fault 0 = 6 | habits 0 w1:1-x | fault 0 = 11");
        says("With a FAULT they have none.",
            COLD + "dial 4 0 0 | habits 0 k0:0+; | all 0 0 = 0 | wipe 0 | habits 0 k0:0+ | all 0 0 = 1",
            COLD + "dial 4 0 0 | habits 0 k0:0+x | all 0 0 = 0 | number 39 0 = 0 | count 4 = 6");
    }

    private static void termsOfDialsAndSheets() {
        says("DIALS, 8 at most, are of a KIND, in a CELL, and begin with a number: 0 REAL (100 to 300: what it is to be), "
            + "1 FALSE, 2 FAN, 3 HEATER, 4 SHUT, 5 WINDOW (0 off, 1 on).",
            each("dial 1 # 0", 0, 6) + " | dial 5 23 1 = 7 | dial 1 0 0 = FULL | count 1 = 8",
            "dial 0 0 100 = 0 | dial 0 0 300 = 1 | dial 0 0 99 = BAD | dial 0 0 301 = BAD | dial 0 0 1 = BAD",
            each("dial # 0 0", 1, 5) + " | " + each("dial # 0 2 = BAD", 1, 5) + " | " + each("dial # 0 -1 = BAD", 1, 5)
                + " | " + each("tune # 2 1 = 0", 0, 4) + " | count 1 = 5",
            "dial 6 0 0 = BAD | dial -1 0 100 = BAD | dial 0 24 100 = BAD");
        says("A REAL one has a FEELER (its CELL at first) and GRILLES (CELLS as bits; all of its row at first).",
            "dial 0 8 200 | tune 0 0 3 = 8 | tune 0 1 1 = 4032 | tune 0 1 16777215 = 1 | tune 0 1 16777216 = BAD",
            "set 1 0 | dial 0 8 220 | warmth 1 5 0 = 200 | warmth 1 6 0 = 210 | warmth 1 11 0 = 210 | warmth 1 12 0 = 200");
        says("SHEETS 0 .. 3 are LOST (at first) or a row of a FORM: 0 bytes, 1 shorts, 2 ints, of 0 to 60 items (0 at first).",
            each("lose # = NULL", 0, 3) + " | lose 4 = BAD | lose -1 = BAD",
            "sheet 0 0 0 = 0 | sheet 1 1 60 = 60 | sheet 2 2 61 = BAD | sheet 3 3 1 = BAD | sheet 3 -1 1 = BAD | lose 1 = 60",
            "sheet 3 2 60 | " + each("get 3 2 # = 0", 0, 59),
            "row 0 0 300 | get 0 0 0 = 44 | row 1 1 70000 | get 1 1 0 = 4464 | row 2 2 70000 | get 2 2 0 = 70000");
        says("FINDINGS (answers -10 less the number; they change nothing but count() 8): 1 NULL: the SHEET is LOST; "
            + "2 INDEX: there is no such item; 3 CAST: it has another FORM; 4 STORE: unlike FORMS; 5 SIZE: below 0.",
            "write 0 0 = -11 | count 8 = 1 | lose 0 = -11",
            "row 0 0 7 | lay 0 0 1 8 = -12 | count 8 = 2 | get 0 0 0 = 7 | lose 0 = 1",
            "row 0 0 7 | lay 0 1 0 8 = -13 | count 8 = 3 | get 0 0 0 = 7 | lose 0 = 1",
            "row 0 0 7 | row 1 1 8 | copy 0 0 1 0 1 = -14 | count 8 = 4 | get 0 0 0 = 7 | get 1 1 0 = 8",
            "row 0 0 7 | sheet 0 1 -1 = -15 | count 8 = 5 | get 0 0 0 = 7 | lose 0 = 1");
    }

    // ---- a step

    private static void acts() {
        says("======== 2 A STEP (a DAY has 40, 0 on; what is divided is cut towards 0): First PERSONS, by numbers:",
            "person 0 200 200 | did 0 0 1 = 100 | did 39 0 1 = 100 | did 40 0 1 = BAD | did -1 0 1 = BAD",
            "cell 0 0 209 | warmth 1 0 0 = 209 | warmth 1 1 0 = 200 | cell 0 0 191 | warmth 1 0 0 = 191 | warmth 1 1 0 = 200",
            COLD + "person 22 300 300 | dial 4 0 0 | habits 0 k0:0+ | habits 1 k0:0- | did 0 0 0 = 1 | did 0 1 0 = 1 | number 0 0 = 0",
            COLD + "person 22 300 300 | dial 4 0 0 | habits 1 k0:0+ | habits 0 k0:0- | did 0 0 0 = 0 | did 0 1 0 = 1 | number 0 0 = 1");
        String shut = "dial 4 23 0 | habits 0 ";
        says("one is COLD by as much as WARMTH of its CELL is below what it likes at least, WARM by as much as it is above "
            + "what it likes at most;",
            STILL + "person 0 205 210 | " + shut + "k5:0+ | did 0 0 0 = 1", STILL + "person 0 205 210 | " + shut + "k6:0+ | did 0 0 0 = 0",
            STILL + "person 0 190 195 | " + shut + "w5:0+ | did 0 0 0 = 1", STILL + "person 0 190 195 | " + shut + "w6:0+ | did 0 0 0 = 0",
            STILL + "person 0 205 210 | " + shut + "w0:0+ | did 0 0 0 = 0", STILL + "person 0 190 195 | " + shut + "k0:0+ | did 0 0 0 = 0");
        says("of its HABITS the first that fits is done, and it ACTED:",
            COLD + "dial 4 0 0 | dial 4 1 0 | habits 0 k101:0+;k0:1+;k0:0+ | number 0 0 = 0 | number 0 1 = 1 | did 0 0 0 = 1"
                + " | number 1 0 = 1 | did 1 0 0 = 1 | did 2 0 0 = 0 | all 0 0 = 2");
        says("one with k fits, if it is COLD by the number or more, and by 1 at least, with w likewise WARM;",
            COLD + "dial 4 0 0 | habits 0 k100:0+ | all 0 0 = 1", COLD + "dial 4 0 0 | habits 0 k101:0+ | all 0 0 = 0",
            STILL + "person 0 200 200 | " + shut + "k0:0+;w0:0+ | all 0 0 = 0", STILL + "person 0 201 201 | " + shut + "k0:0+ | all 0 0 = 1",
            STILL + "person 0 199 199 | " + shut + "w0:0+ | all 0 0 = 1", STILL + "person 0 0 0 | " + shut + "w200:0+ | all 0 0 = 1",
            STILL + "person 0 0 0 | " + shut + "w201:0+ | all 0 0 = 0");
        says("if there is such a DIAL;",
            COLD + "dial 4 0 0 | habits 0 k0:1+;k0:0+ | number 0 0 = 1 | all 0 0 = 1", COLD + "habits 0 k0:0+ | all 0 0 = 0");
        says("and if something can be done with it now: + makes the number of a REAL one 10 more, - 10 less (within 100 to 300), "
            + "+ turns another one on, if it is off, - off, if it is on;",
            COLD + "dial 0 0 280 | habits 0 k0:0+ | number 0 0 = 290 | number 1 0 = 300 | number 2 0 = 300 | all 0 0 = 2",
            COLD + "dial 0 0 295 | habits 0 k0:0+ | number 39 0 = 295 | all 0 0 = 0",
            COLD + "dial 0 0 120 | habits 0 k0:0- | number 0 0 = 110 | number 1 0 = 100 | number 2 0 = 100 | all 0 0 = 2",
            COLD + "dial 0 0 105 | habits 0 k0:0- | number 39 0 = 105 | all 0 0 = 0",
            COLD + "dial 2 0 0 | habits 0 k0:0+ | number 0 0 = 1 | all 0 0 = 1", COLD + "dial 2 0 1 | habits 0 k0:0+ | all 0 0 = 0",
            COLD + "dial 5 0 1 | habits 0 k0:0- | number 0 0 = 0 | all 0 0 = 1", COLD + "dial 5 0 0 | habits 0 k0:0- | all 0 0 = 0");
        says("with a FALSE one likewise, but by one PERSON not more than TRIES times with that one in the DAY.",
            COLD + "dial 1 0 0 | habits 0 k0:0+;k0:0- | number 0 0 = 1 | number 1 0 = 0 | number 2 0 = 1 | number 3 0 = 1 | all 0 0 = 3",
            COLD + "dial 1 0 0 | dial 1 0 0 | habits 0 k0:0+;k0:0-;k0:1+;k0:1- | all 0 0 = 6",
            COLD + "person 23 300 300 | dial 1 0 0 | habits 0 k0:0+ | habits 1 k0:0- | all 0 0 = 3 | all 1 0 = 3",
            COLD + "person 23 300 300 | dial 1 0 0 | dial 1 0 0 | habits 0 k0:1+;k0:1- | habits 1 k0:0+;k0:0- | all 0 0 = 3 | all 1 0 = 3",
            COLD + "set 5 60 | dial 1 0 0 | habits 0 k0:0+;k0:0- | all 0 0 = 40");
    }

    private static void warmthInAStep() {
        says("Then, all by WARMTH and STONE as they were:",
            "set 2 0 | cell 0 0 400 | warmth 1 0 0 = 360 | warmth 1 1 0 = 220 | warmth 1 2 0 = 200 | warmth 2 2 0 = 202",
            "set 1 0 | set 2 20 | cell 0 0 300 | dial 3 0 1 | warmth 1 0 0 = 295 | warmth 1 0 1 = 220",
            STILL + "dial 0 0 201 | dial 3 0 1 | tune 0 1 1 | warmth 1 0 0 = 225");
        says("between NEIGHBOURS goes their difference times FLOW by 100, to the colder one;",
            "set 2 0 | cell 0 0 255 | warmth 1 0 0 = 245 | warmth 1 1 0 = 205 | warmth 1 6 0 = 205",
            "set 2 0 | cell 0 0 299 | warmth 1 0 0 = 281 | warmth 1 1 0 = 209 | warmth 1 6 0 = 209",
            "set 2 0 | cell 0 0 145 | warmth 1 0 0 = 155 | warmth 1 1 0 = 195 | warmth 1 6 0 = 195",
            "set 2 0 | set 1 20 | cell 23 0 300 | warmth 1 23 0 = 260 | warmth 1 22 0 = 220 | warmth 1 17 0 = 220");
        says("from a CELL to its STONE their difference times SOAK by 100 (to the CELL, where STONE is warmer);",
            "set 1 0 | cell 4 0 239 | warmth 1 4 0 = 238 | warmth 1 4 1 = 201 | cell 4 0 219 | warmth 1 4 0 = 219 | warmth 1 4 1 = 200",
            "set 1 0 | cell 4 0 299 | warmth 1 4 0 = 295 | warmth 1 4 1 = 204",
            "set 1 0 | cell 4 1 300 | warmth 1 4 0 = 205 | warmth 1 4 1 = 295");
        says("at a WINDOW that is on, a fifth of what the CELL is warmer than OUT goes out (or in, likewise);",
            STILL + "dial 5 3 1 | warmth 1 3 0 = 180 | warmth 2 3 0 = 164 | warmth 1 4 0 = 200",
            STILL + "dial 5 3 1 | set 0 309 | warmth 1 3 0 = 221 | set 0 196 | warmth 1 3 0 = 200 | set 0 204 | warmth 1 3 0 = 200",
            STILL + "dial 5 3 0 | warmth 40 3 0 = 200",
            STILL + "dial 5 3 1 | dial 5 3 1 | warmth 1 3 0 = 160");
    }

    private static void machinesInAStep() {
        says("a FAN that is on takes 10 from its CELL to the next one in its row (from the last one to the one ahead);",
            STILL + "dial 2 7 1 | warmth 1 7 0 = 190 | warmth 1 8 0 = 210 | warmth 1 6 0 = 200",
            STILL + "dial 2 11 1 | warmth 1 11 0 = 190 | warmth 1 10 0 = 210 | warmth 1 12 0 = 200",
            STILL + "dial 2 23 1 | warmth 1 23 0 = 190 | warmth 1 22 0 = 210", STILL + "dial 2 7 0 | warmth 40 7 0 = 200");
        says("a HEATER that is on gives 15 to its CELL;",
            STILL + "dial 3 7 1 | warmth 1 7 0 = 215 | warmth 2 7 0 = 230 | warmth 2 8 0 = 200", STILL + "dial 3 7 0 | warmth 40 7 0 = 200");
        says("a REAL one, if WARMTH of its FEELER is below its number, gives POWER to each CELL of its GRILLES, takes it, if above;",
            STILL + "dial 0 0 201 | tune 0 0 23 | tune 0 1 65 | warmth 1 0 0 = 210 | warmth 1 6 0 = 210 | warmth 1 23 0 = 200 | warmth 40 0 0 = 600",
            STILL + "dial 0 0 199 | tune 0 0 23 | tune 0 1 65 | warmth 1 0 0 = 190 | warmth 1 6 0 = 190 | warmth 1 1 0 = 200",
            STILL + "dial 0 0 200 | tune 0 0 23 | warmth 40 0 0 = 200", STILL + "dial 0 0 300 | set 3 30 | warmth 1 0 0 = 230 | warmth 1 5 0 = 230");
        says("half of that, where a SHUT that is on is.",
            STILL + "dial 0 0 300 | dial 4 2 1 | warmth 1 2 0 = 205 | warmth 1 1 0 = 210 | warmth 1 3 0 = 210",
            STILL + "dial 0 0 100 | dial 4 2 1 | set 3 7 | warmth 1 2 0 = 197 | warmth 1 1 0 = 193",
            STILL + "dial 0 0 300 | dial 4 2 0 | warmth 1 2 0 = 210",
            STILL + "dial 3 2 1 | dial 4 2 1 | warmth 1 2 0 = 215");
        says("WARMTH is kept between 0 and 600, STONE is as it comes.",
            STILL + "dial 3 5 1 | dial 3 5 1 | dial 3 5 1 | cell 5 0 399 | warmth 4 5 0 = 579 | warmth 5 5 0 = 600 | warmth 40 5 0 = 600",
            STILL + "dial 2 0 1 | cell 0 0 15 | warmth 1 0 0 = 5 | warmth 2 0 0 = 0 | warmth 3 0 0 = 0 | warmth 3 1 0 = 230",
            "set 1 0 | set 2 20 | cell 0 0 0 | cell 0 1 400 | warmth 1 0 1 = 320 | warmth 1 0 0 = 80");
    }

    private static void costAndPoints() {
        says("COST of a STEP: 2 for each HEATER that is on, 1 for each FAN that is on, 1 for each CELL of the GRILLES of each REAL one "
            + "whose FEELER is not at its number.",
            STILL + "dial 3 0 1 | run 0 = 80 | dial 3 0 1 | run 0 = 160 | dial 3 0 0 | run 0 = 160",
            STILL + "dial 2 0 1 | run 0 = 40 | dial 2 3 1 | run 0 = 80 | dial 2 0 0 | run 0 = 80",
            STILL + "dial 0 0 200 | run 0 = 0 | tune 0 2 201 | tune 0 0 23 | run 0 = 240 | tune 0 1 5 | run 0 = 80 | tune 0 2 199 | run 0 = 80",
            STILL + "dial 1 0 1 | dial 4 0 1 | dial 5 0 1 | run 0 = 0", ONE + "tune 0 2 250 | run 0 = 5",
            COLD + "dial 3 0 0 | habits 0 k0:0+;k0:0- | run 0 = 40");
        says("POINTS of a PERSON in a STEP: 100 less twice as much as WARMTH of its CELL behind the STEP is outside of what it likes, "
            + "0 at least; and TOUCH, if it ACTED.",
            STILL + "person 0 210 220 | did 0 0 1 = 80 | person 0 180 190 | did 0 1 1 = 80 | person 0 200 200 | did 0 2 1 = 100",
            STILL + "person 0 249 400 | did 0 0 1 = 2 | person 0 250 400 | did 0 1 1 = 0 | person 0 251 400 | did 0 2 1 = 0",
            STILL + "person 0 210 220 | dial 3 0 1 | did 0 0 1 = 100 | did 1 0 1 = 80 | did 2 0 1 = 50",
            COLD + "dial 4 0 0 | habits 0 k0:0+ | did 0 0 1 = 5 | did 1 0 1 = 0 | set 4 20 | did 0 0 1 = 20");
    }

    // ---- a run, and what is asked of it

    private static void harmsAndFights() {
        says("======== 3 A RUN is a DAY of 40 STEPS.",
            STILL + "person 0 0 400 | all 0 1 = 4000 | run 1 = 4000 | warmth 40 0 0 = 200 | warmth 41 0 0 = BAD",
            STILL + "dial 2 0 1 | cell 1 0 0 | warmth 39 1 0 = 390 | warmth 40 1 0 = 400");
        // The HEATER makes 215, 230, 245, 260 of CELL 1: 70, 40, 10 POINTS, then none. By the REAL DIAL it comes to
        // 260 behind STEP 5 and to 300 behind STEP 9: 20, 40, 60, 80 POINTS, then 100 for 31 STEPS.
        says("HARM by a PERSON to another one: the other's POINTS together without the first one's HABITS less those with them.",
            COLD + "person 1 200 200 | dial 3 1 0 | habits 0 k0:0+ | all 1 1 = 120 | harm 0 1 = 3880 | harm 1 0 = 0",
            COLD + "person 1 300 300 | dial 0 1 200 | tune 0 1 2 | habits 0 k0:0+ | all 1 1 = 3300 | harm 0 1 = -3300");
        // By FAN and WINDOW CELL 0 is 170, 146, 127, 112, 100, 90: from STEP 6 on it is colder than OUT.
        says("FIGHT of two DIALS: STEPS in which one gives to a CELL and the other takes from it (by 1 at least; WINDOWS give where OUT "
            + "is warmer, take where it is colder).",
            STILL + "dial 3 0 1 | dial 5 0 1 | fight 0 1 = 40 | fight 1 0 = 40 | set 0 199 | fight 0 1 = 39 | set 0 400 | warmth 1 0 0 = 255",
            STILL + "dial 2 0 1 | dial 5 0 1 | fight 0 1 = 34 | set 0 -200 | fight 0 1 = 0 | set 0 205 | fight 0 1 = 40 | fight 1 0 = 40",
            STILL + "dial 2 0 1 | dial 3 0 1 | dial 3 1 1 | fight 0 1 = 40 | fight 0 2 = 0 | fight 1 2 = 0",
            STILL + "dial 0 0 100 | tune 0 0 23 | dial 3 0 1 | dial 3 6 1 | fight 0 1 = 40 | fight 0 2 = 0 | set 3 1 | fight 0 1 = 40 | fight 1 0 = 40"
                + " | dial 4 0 1 | fight 0 1 = 0 | fight 3 1 = 0",
            COLD + "dial 2 0 1 | dial 3 0 0 | habits 0 k0:1+;k0:1- | fight 0 1 = 20");
        says("LED: a PERSON leads another one, if without its HABITS the other one ACTED another number of times.",
            COLD + "person 22 300 300 | dial 4 0 0 | habits 0 k0:0+ | habits 1 k0:0- | leads 0 1 = 1 | leads 1 0 = 1",
            COLD + "person 22 300 300 | dial 4 0 0 | habits 0 k0:0+ | habits 1 k0:0+ | leads 0 1 = 1 | leads 1 0 = 0",
            COLD + "person 22 300 300 | dial 4 0 0 | dial 4 0 0 | habits 0 k0:0+ | habits 1 k0:1+ | leads 0 1 = 0 | leads 1 0 = 0");
        says("RING: those PERSONS that can be come to from themselves by leading, as bits.",
            COLD + "person 22 300 300 | person 21 300 300 | dial 4 0 0 | dial 1 0 0 | habits 0 k0:0+ | habits 2 k0:0- | habits 1 k0:1+ | ring = 5",
            COLD + "person 22 300 300 | dial 4 0 0 | habits 0 k0:0+ | habits 1 k0:0+ | leads 0 1 = 1 | ring = 0",
            COLD + "dial 4 0 0 | habits 0 k0:0+;k0:0- | ring = 0",
            COLD + "person 22 300 300 | person 21 300 300 | dial 4 0 0 | habits 0 k0:0+ | habits 1 k0:0- | habits 2 k0:0+"
                + " | all 0 0 = 1 | all 1 0 = 40 | all 2 0 = 40 | leads 0 1 = 1 | leads 1 2 = 1 | leads 2 0 = 1"
                + " | leads 1 0 = 0 | leads 2 1 = 0 | leads 0 2 = 0 | ring = 7");
    }

    private static void theBest() {
        // 200 becomes 210, 220, 230 (60, 80, 100 POINTS) and stays, for 3 STEPS' COST; the third REAL DIAL costs 60.
        String warmer = ONE + "person 0 230 230 | ";
        says("BEST SETTINGS: numbers 180, 190, .. 250 of the first two REAL DIALS (one, if there is one; NOT, if there is none) "
            + "at the beginning, with the most POINTS of all together in a RUN that costs no more than told (0 to 9999), "
            + "of like ones the least first, then the least second number; NONE: none is so cheap.",
            warmer + "best 9999 0 = 230 | best 9999 1 = NONE | best 9999 2 = 3940 | best 3 0 = 230 | best 2 0 = 220 | best 2 2 = 3180"
                + " | best 0 0 = 200 | best 0 2 = 1600 | best 10000 0 = BAD | best -1 0 = BAD",
            warmer + "dial 3 23 1 | best 79 0 = NONE | best 79 1 = NONE | best 79 2 = NONE | best 80 0 = 200",
            warmer + "dial 1 0 0 | dial 0 6 300 | tune 2 1 64 | person 6 190 190 | dial 0 12 300 | best 9999 0 = 230 | best 9999 1 = 190"
                + " | best 9999 2 = 7940"
                + " | best 64 2 = 7940 | best 60 0 = 200 | best 60 1 = 200 | best 60 2 = 4800 | best 59 0 = NONE",
            ONE + "best 0 0 = 200 | best 9999 0 = 180 | best 9999 2 = 0 | dial 0 6 200 | best 9999 0 = 180 | best 9999 1 = 180",
            ONE + "person 0 0 170 | person 0 260 400 | best 9999 0 = 180", ONE + "person 0 280 280 | best 9999 0 = 250",
            "dial 3 0 1 | best 9999 0 = NOT");
        says("BEST SEATS: which PERSON sits in which SEAT (each SEAT of one of them by one; 5 PERSONS at most: FULL) with the most POINTS "
            + "together, of like ones that with the least PERSON in the SEAT of PERSON 0, then in that of PERSON 1, ..",
            STILL + "cell 0 0 210 | cell 1 0 220 | cell 2 0 230 | person 0 220 220 | person 1 230 230 | person 2 210 210"
                + " | seats 0 = 2 | seats 1 = 0 | seats 2 = 1 | seats NONE = 12000",
            STILL + each("person # 0 400", 0, 4) + " | " + each("seats # = #", 0, 4) + " | seats NONE = 20000 | person 5 0 400 | seats 0 = FULL",
            STILL + "cell 0 0 250 | person 0 200 200 | person 1 250 250 | person 0 250 250 | seats 0 = 1 | seats 1 = 0 | seats 2 = 2");
        says("FEEL: the CELL where the FEELER of a REAL DIAL should be, by POINTS together, of like ones the least.",
            STILL + "dial 0 5 250 | tune 0 1 1 | person 0 200 200 | cell 7 0 250 | cell 9 0 250 | feel 0 = 7",
            STILL + "dial 0 5 250 | tune 0 1 1 | person 0 250 250 | feel 0 = 0", STILL + "dial 0 5 250 | feel 0 = 0");
        // By POWER 1 CELL 2 would be 201, 202, .. 240, 2720 POINTS for one who likes 205; half of it is 0: 3600.
        says("WORTH of a DIAL: POINTS together less those without it (nobody does anything with it, it does nothing).",
            COLD + "dial 1 0 0 | habits 0 k0:0+;k0:0- | worth 0 = 15", STILL + "person 0 200 200 | dial 3 0 1 | worth 0 = -3880",
            COLD + "dial 4 0 0 | dial 1 0 0 | habits 0 k0:0+;k0:0-;k0:1+;k0:1- | run 1 = 200 | worth 0 = 185 | worth 1 = 0",
            STILL + "dial 0 0 300 | person 2 205 205 | dial 4 2 1 | set 3 1 | tune 0 1 4 | worth 1 = 880");
    }

    // ---- votes, beginnings, spans

    private static void votes() {
        String three = "person 0 0 400 | person 0 0 400 | person 0 0 400 | dial 0 0 200 | ";
        says("======== 4 A VOTE: a SHEET tells what PERSONS press (-1, 0, 1, one item each): by a RULE (0 the sum's sign, 1 the middle one, "
            + "the lesser of both in the middle) the number of a REAL DIAL becomes so many tens more at the beginning.",
            three + "row 0 0 1 -1 1 | vote 0 0 0 = 210 | vote 0 0 1 = 210 | row 0 0 0 1 0 | vote 0 0 0 = 210 | vote 0 0 1 = 200",
            three + "row 0 2 -1 -1 1 | vote 0 0 0 = 190 | vote 0 0 1 = 190 | row 0 1 1 1 1 | vote 0 0 0 = 210 | vote 0 0 1 = 210",
            three + "person 0 0 400 | row 0 0 1 -1 -1 1 | vote 0 0 0 = 200 | vote 0 0 1 = 190 | row 0 0 1 0 1 0 | vote 0 0 0 = 210"
                + " | vote 0 0 1 = 200 | row 0 0 1 1 -1 1 | vote 0 0 0 = 210 | vote 0 0 1 = 210",
            three + "row 0 0 1 1 2 | vote 0 0 0 = NOT | row 0 0 1 1 | vote 0 0 0 = NOT | row 0 0 1 1 1 1 | vote 0 0 0 = NOT");
        says("GAIN: the most POINTS that a PERSON could have more in the RUN by pressing otherwise itself, all others as they did; 0 at least.",
            ONE + "person 0 210 210 | row 0 0 0 | gain 0 0 0 0 = 800 | gain 0 0 1 0 = 800 | row 0 0 1 | gain 0 0 0 0 = 0 | row 0 0 -1 | gain 0 0 0 0 = 1600",
            ONE + "person 0 210 210 | person 5 0 400 | person 5 0 400 | row 0 0 0 -1 -1 | gain 0 0 0 0 = 0 | row 0 0 0 0 -1 | gain 0 0 0 0 = 800"
                + " | gain 0 0 0 1 = 0 | gain 0 0 1 0 = 0",
            ONE + "person 0 200 200 | row 0 0 0 | gain 0 0 0 0 = 0");
    }

    private static void mondaysAndSpans() {
        String real = ONE + "tune 0 2 250 | ";
        says("MONDAY: the last STEP, t at most, at which a REAL DIAL, that does nothing (and costs nothing) before, can begin, nobody doing "
            + "anything, so that at the beginning of STEP t (1 to 40) WARMTH of a CELL is as much as told (0 to 600) or more; "
            + "NONE: there is none.",
            real + "monday 0 0 250 40 = 35 | monday 0 0 241 40 = 35 | monday 0 0 240 40 = 36 | monday 0 0 250 5 = 0 | monday 0 0 250 4 = NONE"
                + " | monday 0 0 200 7 = 7 | monday 0 0 0 40 = 40 | monday 0 0 251 40 = NONE | monday 0 0 600 40 = NONE",
            real + "monday 0 0 200 0 = BAD | monday 0 0 200 41 = BAD | monday 0 0 601 5 = BAD | monday 0 0 -1 5 = BAD",
            real + "person 23 300 300 | dial 3 0 0 | habits 0 k0:1+ | warmth 2 0 0 = 250 | monday 0 0 250 40 = 35",
            real + "dial 3 0 1 | monday 0 0 245 3 = 3 | monday 0 0 246 3 = 2 | monday 0 1 201 40 = NONE",
            STILL + "dial 0 0 100 | tune 0 1 1 | monday 0 0 200 9 = 9 | monday 0 0 201 9 = NONE");
        says("SPAN of somebody by a SHEET of pairs: warmth that was felt, what was done (-1 as one who is COLD, 1 as one who is WARM, "
            + "0 nothing): what it likes at least is more than each warmth with -1, and at most each with 0 or 1; what it likes at most "
            + "is less than each with 1, and at least each with 0 or -1; both are 0 to 400, the second not less: the least and the "
            + "greatest that each can be so; NOT, if there is no such span.",
            "row 0 2 190 -1 205 0 215 0 230 1 180 -1 250 1 | span 0 0 = 191 | span 0 1 = 205 | span 0 2 = 215 | span 0 3 = 229",
            "row 0 2 100 1 | span 0 0 = 0 | span 0 1 = 99 | span 0 2 = 0 | span 0 3 = 99",
            "row 0 2 100 -1 | span 0 0 = 101 | span 0 1 = 400 | span 0 2 = 101 | span 0 3 = 400",
            "row 0 2 100 0 | span 0 0 = 0 | span 0 1 = 100 | span 0 2 = 100 | span 0 3 = 400",
            "row 0 2 399 -1 | span 0 0 = 400 | span 0 2 = 400 | row 0 2 400 -1 | span 0 0 = NOT",
            "row 0 2 1 1 | span 0 1 = 0 | span 0 3 = 0 | row 0 2 0 1 | span 0 1 = NOT",
            "row 0 2 200 -1 201 1 | span 0 0 = NOT | row 0 2 200 -1 202 1 | span 0 0 = 201 | span 0 1 = 201 | span 0 2 = 201 | span 0 3 = 201",
            "row 0 2 200 -1 200 0 | span 0 3 = NOT", "row 0 2 200 1 200 0 | span 0 0 = NOT", "row 0 2 210 -1 200 1 | span 0 0 = NOT");
    }

    // ---- refusals

    private static void refusals() {
        String six = each("person 0 0 #", 395, 400) + " | ";
        says("Refusals, the first that fits, in the order told at each act: BAD -2 (a number not as told, no such thing), NULL, NOT -3 "
            + "(as told), FULL -4, other FINDINGS.",
            six + "person 0 0 401 = -2 | person 0 0 400 = -4 | seats 6 = -2 | seats 5 = -4",
            "read 0 24 = -2 | read 0 0 = -11 | write 41 0 = -2 | write 40 0 = -11 | count 8 = 1",
            "dial 0 0 200 | vote 0 1 0 = -2 | vote 0 0 2 = -2 | vote 0 0 0 = -11 | sheet 0 0 1 | vote 0 0 2 = -2 | vote 0 0 0 = -3",
            "dial 0 0 200 | person 0 0 0 | gain 0 0 0 1 = -2 | gain 0 0 0 0 = -11 | sheet 0 0 2 | gain 0 0 0 1 = -2 | gain 0 0 0 0 = -3",
            "span 0 4 = -2 | span 0 0 = -11 | sheet 0 0 1 | span 0 4 = -2 | span 0 0 = -3", "best 0 3 = -2 | best 0 0 = -3",
            "sheet 4 0 -1 = -2 | sheet 0 3 -1 = -2 | sheet 0 0 -1 = -15",
            "lay 0 3 0 0 = -2 | lay 0 0 9 0 = -11 | sheet 0 0 1 | lay 0 3 9 0 = -2 | lay 0 1 9 0 = -13 | lay 0 0 9 0 = -12",
            "copy 0 9 4 9 9 = -2 | copy 0 9 1 9 9 = -11 | sheet 0 0 1 | copy 0 9 1 9 9 = -11 | sheet 1 1 1 | copy 0 9 1 9 9 = -14"
                + " | sheet 1 0 1 | copy 0 9 1 9 9 = -12");
        says("They change nothing (FINDINGS but count() 8).",
            six + "person 0 0 400 = FULL | count 0 = 6 | seat 5 24 = BAD | seat 5 0 = 0 | count 8 = 0",
            "row 0 2 7 8 | sheet 0 0 -1 = SIZE | copy 0 0 0 1 2 = INDEX | lay 0 1 0 9 = CAST | get 0 2 0 = 7 | get 0 2 1 = 8 | lose 0 = 2 | count 8 = 3",
            "dial 0 0 200 | tune 0 0 24 = BAD | tune 0 1 0 = BAD | tune 0 2 99 = BAD | tune 0 0 1 = 0 | tune 0 1 1 = 63 | tune 0 2 100 = 200 | count 8 = 0");
    }

    /** The calls of the interface stand behind its headings, in the class as in the document. */
    private static void headings() throws IOException {
        String source = Files.readString(SOURCE);
        heading(source, "the floor", "cell", "read", "wall", "set");
        heading(source, "persons, dials", "person", "seat", "type", "wipe", "fault", "dial", "tune");
        heading(source, "a run", "warmth", "number", "did", "all", "run");
        heading(source, "harm, fights", "harm", "fight", "leads", "ring");
        heading(source, "the best", "best", "seats", "feel", "worth");
        heading(source, "votes, beginnings, spans", "vote", "gain", "monday", "span");
        heading(source, "sheets", "sheet", "lose", "lay", "get", "copy", "write", "count", "digest");
    }

    private static void heading(String source, String text, String... calls) {
        String names = Arrays.stream(calls).map(c -> "`" + c + "`").collect(Collectors.joining(", "));
        prose("Ahead of the calls " + names + " the interface says: ---- " + text + ".");
        int from = source.indexOf("// ---- " + text + "\n");
        int to = source.indexOf("// ----", from + 1);
        for (String call : calls) {
            int at = source.indexOf(" " + call + "(", Math.max(0, from));
            due("whether " + call + " stands there", from >= 0 && at > from && at < to ? 1 : 0, 1);
        }
    }

    // ---- promises

    private static void promisesOfTheFloor() {
        promise(1, "A new object", "`WarmFloor()`:");
        says("No PERSONS, no DIALS; all SHEETS are LOST.",
            "count 0 = 0 | count 1 = 0 | fault 0 = BAD | number 0 0 = BAD | " + each("lose # = NULL", 0, 3), "count 8 = 0 | count 2 = 0");
        promise(2, "cell", "`int cell(int cell, int what, int v)`:");
        says("WARMTH (what = 0), STONE (1) with which a CELL begins: what it was.",
            "cell 23 0 7 = 200 | cell 23 0 8 = 7 | cell 23 1 9 = 200 | cell 23 1 9 = 9 | warmth 0 23 0 = 8 | warmth 0 23 1 = 9 | warmth 0 22 0 = 200");
        says("BAD.", "cell 24 0 5 = BAD | cell -1 0 5 = BAD | cell 0 2 5 = BAD | cell 0 -1 5 = BAD | cell 0 0 401 = BAD | cell 0 1 -1 = BAD");
        promise(3, "read", "`int read(int s, int cell)`:");
        says("WARMTH of CELLS from one on by a SHEET: item by item, as long as each may be: how many.",
            "row 0 1 0 400 401 7 | read 0 4 = 2 | warmth 0 4 0 = 0 | warmth 0 5 0 = 400 | warmth 0 6 0 = 200 | warmth 0 7 0 = 200",
            "row 0 0 5 -1 5 | read 0 0 = 1 | warmth 0 1 0 = 200", "sheet 0 2 60 | read 0 22 = 2 | read 0 0 = 24 | sheet 0 2 0 | read 0 0 = 0");
        says("BAD; NULL.", "read 4 0 = BAD | read -1 0 = BAD | read 0 24 = BAD | read 0 -1 = BAD | count 8 = 0 | read 0 0 = NULL | count 8 = 1");
        promise(4, "wall", "`int wall(int a, int b, boolean is)`:");
        says("A WALL is between two CELLS beside or above one another (is = true), or none: 1; 0: it is so already.",
            "wall 0 1 false = 0 | wall 0 1 true = 1 | wall 1 0 true = 0 | count 2 = 1 | wall 1 0 false = 1 | wall 0 1 false = 0 | count 2 = 0",
            "wall 23 17 true = 1 | wall 17 23 true = 0 | wall 22 23 true = 1 | count 2 = 2"
                + " | wall 23 17 false = 1 | count 2 = 1 | wall 22 23 true = 0");
        says("BAD.", "wall 0 0 true = BAD | wall 0 2 true = BAD | wall 5 6 true = BAD | wall 0 7 true = BAD | wall 0 12 true = BAD"
            + " | wall 23 24 true = BAD | wall -1 0 false = BAD | count 2 = 0");
        promise(5, "set", "`int set(int what, int v)`:");
        says("OUT (what = 0), LAWS (1 to 5, in the order told): what it was.",
            "set 0 1 = 100 | set 0 2 = 1 | count 3 = 2", STILL + "set 1 5 = 0 | cell 0 0 300 | warmth 1 1 0 = 205",
            STILL + "set 2 5 = 0 | cell 0 0 300 | warmth 1 0 1 = 205", STILL + "set 3 7 = 10 | dial 0 0 300 | warmth 1 0 0 = 207",
            COLD + "set 4 9 = 5 | dial 4 0 0 | habits 0 k0:0+ | all 0 1 = 9", COLD + "set 5 8 = 3 | dial 1 0 0 | habits 0 k0:0+;k0:0- | all 0 0 = 8");
        says("BAD.", "set -1 5 = BAD | set 6 5 = BAD | set 0 401 = BAD | set 3 31 = BAD | set 5 0 = BAD");
    }

    private static void promisesOfPersonsAndDials() {
        promise(6, "person", "`int person(int cell, int low, int high)`:");
        says("A PERSON more: its number.", "person 3 0 0 = 0 | person 3 0 0 = 1 | count 0 = 2 | seat 1 0 = 3");
        says("BAD; FULL.", "person 24 0 0 = BAD | person 0 1 0 = BAD | " + each("person # 0 0 = #", 0, 5) + " | person 24 0 0 = BAD | person 0 0 0 = FULL");
        promise(7, "seat", "`int seat(int person, int cell)`:");
        says("The SEAT of a PERSON becomes a CELL: what it was.",
            STILL + "person 3 200 200 | cell 9 0 210 | all 0 1 = 4000 | seat 0 9 = 3 | all 0 1 = 3200 | seat 0 9 = 9");
        says("BAD.", "seat 0 0 = BAD | person 3 0 0 | seat 1 0 = BAD | seat -1 0 = BAD | seat 0 24 = BAD | seat 0 -1 = BAD | seat 0 0 = 3");
        promise(8, "type", "`int type(int person, int b)`:");
        says("A byte (0 to 255) comes behind a PERSON's HABITS: how many.",
            "person 0 0 0 | person 0 0 0 | type 0 0 = 1 | type 0 255 = 2 | type 1 107 = 1 | fault 1 = 1 | type 1 49 = 2 | fault 1 = 2 | count 4 = 4");
        says("BAD; FULL.", "type 0 65 = BAD | person 0 0 0 | type 0 256 = BAD | type 0 -1 = BAD | " + each("type 0 65 = #", 1, 40)
            + " | type 0 256 = BAD | type 0 65 = FULL");
        promise(9, "wipe", "`int wipe(int person)`:");
        says("HABITS are empty: how many bytes they had.",
            COLD + "dial 4 0 0 | habits 0 k0:0+ | all 0 0 = 1 | wipe 0 = 5 | wipe 0 = 0 | all 0 0 = 0 | fault 0 = NONE | count 4 = 0");
        says("BAD.", "wipe 0 = BAD | person 0 0 0 | wipe 1 = BAD | wipe -1 = BAD | wipe 0 = 0");
        promise(10, "fault", "`int fault(int person)`:");
        says("The FAULT; NONE.", "person 0 0 0 | fault 0 = NONE | habits 0 k1:2 | fault 0 = 4 | type 0 45 | fault 0 = NONE | type 0 107 | fault 0 = 5");
        says("BAD.", "fault 0 = BAD | person 0 0 0 | fault 1 = BAD | fault -1 = BAD");
        promise(11, "dial", "`int dial(int kind, int cell, int number)`:");
        says("A DIAL more: its number.", "dial 0 0 100 = 0 | dial 1 0 0 = 1 | dial 5 23 1 = 2 | count 1 = 3 | number 0 2 = 1 | number 0 0 = 100");
        says("BAD; FULL.", "dial 6 0 0 = BAD | dial 1 24 0 = BAD | dial 1 0 2 = BAD | " + each("dial 1 0 1 = #", 0, 7) + " | dial 6 0 0 = BAD | dial 1 0 1 = FULL");
        promise(12, "tune", "`int tune(int dial, int what, int v)`:");
        says("FEELER (what = 0), GRILLES (1; bits, not none), the number (2) of a DIAL: what it was.",
            "dial 0 8 200 | tune 0 0 5 = 8 | tune 0 0 5 = 5 | tune 0 1 9 = 4032 | tune 0 1 9 = 9 | tune 0 2 210 = 200 | tune 0 2 210 = 210",
            STILL + "dial 0 8 210 | cell 23 0 220 | tune 0 0 23 | tune 0 1 9 | warmth 1 0 0 = 190 | warmth 1 3 0 = 190 | warmth 1 8 0 = 200",
            "dial 0 8 200 | tune 0 1 0 = BAD | dial 3 0 0 | tune 1 2 1 = 0 | number 0 1 = 1");
        says("BAD: also FEELER, GRILLES of one that is not REAL.",
            "tune 0 2 1 = BAD | dial 1 0 0 | tune 0 0 0 = BAD | tune 0 1 1 = BAD | tune 0 2 2 = BAD | tune 0 3 0 = BAD | tune 0 -1 0 = BAD | tune 1 2 0 = BAD",
            "dial 0 0 200 | tune 0 0 24 = BAD | tune 0 0 -1 = BAD | tune 0 1 -1 = BAD | tune 0 1 16777216 = BAD | tune 0 2 301 = BAD | tune 0 3 200 = BAD");
    }

    private static void promisesOfARun() {
        promise(13, "warmth", "`int warmth(int step, int cell, int what)`:");
        says("At the beginning of a STEP (0 to 40): WARMTH of a CELL (what = 0), its STONE (1).",
            "set 1 0 | cell 5 0 300 | warmth 0 5 0 = 300 | warmth 0 5 1 = 200 | warmth 1 5 0 = 295 | warmth 1 5 1 = 205 | warmth 2 5 0 = 291 | warmth 2 5 1 = 209",
            STILL + "dial 2 5 1 | cell 5 0 400 | warmth 40 5 0 = 0 | warmth 39 5 0 = 10 | warmth 40 4 0 = 600");
        says("BAD.", "warmth 41 0 0 = BAD | warmth -1 0 0 = BAD | warmth 0 24 0 = BAD | warmth 0 -1 0 = BAD | warmth 0 0 2 = BAD | warmth 0 0 -1 = BAD");
        promise(14, "number", "`int number(int step, int dial)`:");
        says("The number of a DIAL behind the acts of a STEP (0 to 39).",
            COLD + "dial 0 0 150 | dial 5 0 0 | habits 0 k0:0+ | number 0 0 = 160 | number 14 0 = 300 | number 39 0 = 300 | number 39 1 = 0");
        says("BAD.", "number 0 0 = BAD | dial 1 0 1 | number 0 0 = 1 | number 40 0 = BAD | number -1 0 = BAD | number 0 1 = BAD | number 0 -1 = BAD");
        promise(15, "did", "`int did(int step, int person, int what)`:");
        says("In a STEP: whether a PERSON ACTED (what = 0), its POINTS (1).",
            STILL + "person 0 210 220 | dial 4 0 0 | habits 0 k0:0+ | did 0 0 0 = 1 | did 0 0 1 = 85 | did 39 0 0 = 0 | did 39 0 1 = 80");
        says("BAD.", "did 0 0 0 = BAD | person 0 0 0 | did 40 0 0 = BAD | did -1 0 0 = BAD | did 0 1 0 = BAD | did 0 -1 0 = BAD | did 0 0 2 = BAD | did 0 0 -1 = BAD");
        promise(16, "all", "`int all(int person, int what)`:");
        says("Of a PERSON in the RUN: how often it ACTED (what = 0), POINTS (1).",
            STILL + "person 0 210 220 | person 0 200 200 | dial 1 0 0 | habits 0 k0:0+;k0:0- | all 0 0 = 3 | all 0 1 = 3215 | all 1 0 = 0 | all 1 1 = 4000");
        says("BAD.", "all 0 0 = BAD | person 0 0 0 | all 1 0 = BAD | all -1 0 = BAD | all 0 2 = BAD | all 0 -1 = BAD");
        promise(17, "run", "`int run(int what)`:");
        says("COST of the RUN (what = 0), POINTS of all together (1).",
            "run 0 = 0 | run 1 = 0", STILL + "person 0 210 220 | person 0 200 200 | dial 3 23 1 | run 0 = 80 | run 1 = 7200");
        says("BAD.", "run 2 = BAD | run -1 = BAD");
    }

    private static void promisesOfHarms() {
        String two = COLD + "person 22 300 300 | dial 4 0 0 | habits 0 k0:0+ | habits 1 k0:0- | ";
        promise(18, "harm", "`int harm(int person, int other)`:");
        says("HARM.", two + "harm 0 1 = -200 | harm 1 0 = -195");
        says("BAD: also to itself.", two + "harm 0 0 = BAD | harm 0 2 = BAD | harm 2 0 = BAD | harm -1 0 = BAD | harm 0 -1 = BAD");
        promise(19, "fight", "`int fight(int a, int b)`:");
        says("FIGHT.", STILL + "dial 2 5 1 | dial 2 4 1 | fight 0 1 = 40 | fight 1 0 = 40 | tune 1 2 0 | fight 0 1 = 0");
        says("BAD: also a DIAL with itself.", "dial 2 0 1 | dial 3 0 1 | fight 0 0 = BAD | fight 0 2 = BAD | fight 2 0 = BAD | fight -1 0 = BAD | fight 0 -1 = BAD");
        promise(20, "leads", "`int leads(int person, int other)`:");
        says("Whether a PERSON leads another one: 1, 0.", two + "leads 0 1 = 1 | leads 1 0 = 1 | wipe 1 | leads 1 0 = 0 | leads 0 1 = 0");
        says("BAD: also itself.", two + "leads 1 1 = BAD | leads 0 2 = BAD | leads 2 0 = BAD | leads -1 0 = BAD | leads 0 -1 = BAD");
        promise(21, "ring", "`int ring()`:");
        says("RING, as bits.", "ring = 0", two + "ring = 3", two + "wipe 0 | ring = 0");
    }

    private static void promisesOfTheBest() {
        promise(22, "best", "`int best(int purse, int what)`:");
        says("BEST SETTINGS: the first number (what = 0), the second (1; NONE: there is one REAL DIAL), POINTS (2).",
            ONE + "person 0 210 210 | best 9999 0 = 210 | best 9999 1 = NONE | best 9999 2 = 4000 | dial 0 1 200 | tune 1 1 2 | best 9999 1 = 180"
                + " | person 1 220 220 | best 9999 1 = 220 | best 9999 2 = 7980 | number 0 1 = 200");
        says("BAD; NOT; NONE.", "best -1 0 = BAD | best 10000 0 = BAD | best 0 3 = BAD | best 0 -1 = BAD | best 0 0 = NOT",
            ONE + "dial 2 0 1 | best 39 0 = NONE | best 39 1 = NONE | best 39 2 = NONE");
        promise(23, "seats", "`int seats(int seat)`:");
        says("BEST SEATS: who sits in the SEAT of a PERSON (0 on); POINTS (seat = NONE).",
            "seats NONE = 0", STILL + "cell 0 0 300 | person 0 200 200 | person 1 300 300 | run 1 = 0 | seats 0 = 1 | seats 1 = 0 | seats NONE = 8000 | run 1 = 0");
        says("BAD; FULL.", "seats 0 = BAD | seats -2 = BAD | " + each("person 0 0 #", 0, 5) + " | seats 6 = BAD | seats -2 = BAD | seats 5 = FULL | seats NONE = FULL");
        promise(24, "feel", "`int feel(int dial)`:");
        says("FEEL.", STILL + "dial 0 5 250 | tune 0 1 1 | person 0 200 200 | cell 23 0 250 | feel 0 = 23 | tune 0 0 0 = 5");
        says("BAD: also a DIAL that is not REAL.", "feel 0 = BAD | dial 0 0 200 | feel 1 = BAD | feel -1 = BAD | " + each("dial # 0 0", 1, 5) + " | " + each("feel # = BAD", 1, 5));
        promise(25, "worth", "`int worth(int dial)`:");
        says("WORTH.", ONE + "person 0 210 210 | worth 0 = 0 | tune 0 2 210 | worth 0 = 800 | number 0 0 = 210");
        says("BAD.", "worth 0 = BAD | dial 1 0 0 | worth 0 = 0 | worth 1 = BAD | worth -1 = BAD");
    }

    private static void promisesOfVotes() {
        String one = "person 0 0 400 | dial 0 0 200 | ";
        promise(26, "vote", "`int vote(int s, int dial, int rule)`:");
        says("What a VOTE makes of the number of a REAL DIAL (100 to 300: if it can be, else as it is).",
            one + "row 0 0 1 | vote 0 0 0 = 210 | number 0 0 = 200 | tune 0 2 290 | vote 0 0 0 = 300 | tune 0 2 291 | vote 0 0 0 = 291 | tune 0 2 300 | vote 0 0 1 = 300",
            one + "row 0 0 -1 | vote 0 0 0 = 190 | tune 0 2 110 | vote 0 0 0 = 100 | tune 0 2 109 | vote 0 0 0 = 109 | tune 0 2 100 | vote 0 0 1 = 100");
        says("BAD; NULL; NOT: not one item each, or others than told.",
            one + "dial 1 0 0 | vote 4 0 0 = BAD | vote -1 0 0 = BAD | vote 0 1 0 = BAD | vote 0 2 0 = BAD | vote 0 0 2 = BAD | vote 0 0 -1 = BAD | vote 0 0 0 = NULL",
            one + "sheet 0 0 0 | vote 0 0 0 = NOT | row 0 0 0 0 | vote 0 0 0 = NOT | row 0 0 2 | vote 0 0 0 = NOT | row 0 0 -2 | vote 0 0 1 = NOT | count 8 = 0");
        promise(27, "gain", "`int gain(int s, int dial, int rule, int person)`:");
        says("GAIN of a PERSON.", ONE + "person 0 190 190 | person 0 210 210 | row 0 0 0 0 | gain 0 0 0 0 = 800 | gain 0 0 0 1 = 800 | gain 0 0 1 0 = 800 | gain 0 0 1 1 = 0");
        says("BAD; NULL; NOT.",
            one + "gain 0 0 0 1 = BAD | gain 0 0 0 -1 = BAD | gain 0 1 0 0 = BAD | gain 0 0 2 0 = BAD | gain 4 0 0 0 = BAD | gain 0 0 0 0 = NULL | sheet 0 0 2 | gain 0 0 0 0 = NOT");
        promise(28, "monday", "`int monday(int dial, int cell, int warmth, int t)`:");
        says("MONDAY; NONE.", ONE + "tune 0 2 210 | monday 0 0 210 40 = 39 | monday 0 0 210 1 = 0 | monday 0 0 211 40 = NONE | run 0 = 1");
        says("BAD.", "monday 0 0 0 1 = BAD | dial 0 0 200 | dial 3 0 0 | monday 1 0 0 1 = BAD | monday 2 0 0 1 = BAD | monday 0 24 0 1 = BAD | monday 0 0 601 1 = BAD | monday 0 0 0 41 = BAD");
        promise(29, "span", "`int span(int s, int what)`:");
        says("SPAN: what it likes at least, least (0), greatest (1); at most, least (2), greatest (3).",
            "sheet 0 2 0 | span 0 0 = 0 | span 0 1 = 400 | span 0 2 = 0 | span 0 3 = 400",
            "row 0 0 100 -1 110 0 120 1 | span 0 0 = 101 | span 0 1 = 110 | span 0 2 = 110 | span 0 3 = 119");
        says("BAD; NULL; NOT: also half a pair, others than told (warmth 0 to 400).",
            "span 4 0 = BAD | span -1 0 = BAD | span 0 4 = BAD | span 0 -1 = BAD | span 0 0 = NULL | count 8 = 1",
            "row 0 2 200 | span 0 0 = NOT | row 0 2 200 0 200 | span 0 0 = NOT | row 0 2 401 0 | span 0 0 = NOT | row 0 2 -1 0 | span 0 0 = NOT"
                + " | row 0 2 200 2 | span 0 0 = NOT | row 0 2 200 -2 | span 0 0 = NOT | row 0 2 0 0 | span 0 1 = 0 | row 0 2 400 0 | span 0 2 = 400");
    }

    private static void promisesOfSheets() {
        promise(30, "sheet", "`int sheet(int s, int form, int n)`:");
        says("A SHEET is a new row of a FORM with n items: n.", "sheet 0 2 3 = 3 | lay 0 2 2 7 | sheet 0 2 3 = 3 | get 0 2 2 = 0 | sheet 0 1 60 = 60 | get 0 1 59 = 0 | lose 0 = 60");
        says("BAD: SHEET, FORM, above 60; SIZE.", "sheet 4 0 1 = BAD | sheet -1 0 1 = BAD | sheet 0 3 1 = BAD | sheet 0 -1 1 = BAD | sheet 0 0 61 = BAD | count 8 = 0 | sheet 0 0 -1 = SIZE");
        promise(31, "lose", "`int lose(int s)`:");
        says("It is LOST: how many items it had.", "sheet 3 0 9 | lose 3 = 9 | lay 3 0 0 1 = NULL | sheet 3 0 0 | lose 3 = 0");
        says("BAD; NULL.", "lose 4 = BAD | lose -1 = BAD | count 8 = 0 | lose 3 = NULL | count 8 = 1");
    }

    private static void promisesOfItems() {
        promise(32, "lay", "`int lay(int s, int form, int i, int v)`:");
        says("Item i, treated as of a FORM, becomes v (the lowest bits that it has): 1.",
            "sheet 0 0 2 | lay 0 0 1 384 = 1 | get 0 0 1 = -128 | get 0 0 0 = 0 | lay 0 0 0 -1 = 1 | get 0 0 0 = -1",
            "sheet 0 1 1 | lay 0 1 0 98304 = 1 | get 0 1 0 = -32768 | sheet 0 2 1 | lay 0 2 0 MAX = 1 | get 0 2 0 = MAX");
        says("BAD; NULL; CAST; INDEX.", "lay 4 0 0 0 = BAD | lay 0 3 0 0 = BAD | lay 0 0 0 0 = NULL | sheet 0 0 1 | lay 0 1 1 0 = CAST | lay 0 0 1 0 = INDEX | lay 0 0 -1 0 = INDEX");
        promise(33, "get", "`int get(int s, int form, int i)`:");
        says("Item i of it.", "row 0 0 5 6 7 | get 0 0 0 = 5 | get 0 0 2 = 7 | count 8 = 0");
        says("BAD: the least int; so are NULL, CAST, INDEX (count() 8 tells).",
            "get 4 0 0 = MIN | get 0 3 0 = MIN | count 8 = 0 | get 0 0 0 = MIN | count 8 = 1 | sheet 0 0 1 | get 0 1 1 = MIN | count 8 = 3 | get 0 0 1 = MIN | count 8 = 2",
            "row 0 2 MIN | get 0 2 0 = MIN | count 8 = 0");
        promise(34, "copy", "`int copy(int s, int i, int t, int j, int n)`:");
        says("n items of SHEET s, from i on, come to SHEET t (perhaps s, as they were), from j on: 1.",
            "row 0 1 1 2 3 | row 1 1 4 5 6 7 | copy 0 1 1 2 2 = 1 | get 1 1 1 = 5 | get 1 1 2 = 2 | get 1 1 3 = 3 | get 0 1 1 = 2",
            "row 0 1 1 2 3 | copy 0 0 0 1 2 = 1 | get 0 1 0 = 1 | get 0 1 1 = 1 | get 0 1 2 = 2 | copy 0 1 0 0 2 = 1 | get 0 1 1 = 2 | copy 0 3 0 3 0 = 1");
        says("BAD: the SHEETS; NULL: s, t; STORE; INDEX: below 0, not so many.",
            "copy 4 0 0 0 0 = BAD | copy 0 0 -1 0 0 = BAD | count 8 = 0 | row 0 0 1 2 | copy 0 0 1 0 0 = NULL | copy 1 0 0 0 0 = NULL | row 1 1 3 | copy 0 0 1 0 0 = STORE"
                + " | row 1 0 3 | copy 0 -1 1 0 1 = INDEX | copy 0 0 1 -1 1 = INDEX | copy 0 0 1 0 -1 = INDEX | copy 0 0 1 0 2 = INDEX | copy 0 2 1 0 1 = INDEX"
                + " | copy 0 3 1 0 0 = INDEX | copy 0 MAX 1 MAX MAX = INDEX | get 1 0 0 = 3");
        promise(35, "write", "`int write(int step, int s)`:");
        says("WARMTH of CELLS 0 on at the beginning of a STEP comes to a SHEET from item 0 on (the lowest bits), as many as there are items and CELLS: how many.",
            STILL + "cell 0 0 300 | dial 3 1 1 | sheet 0 0 2 | write 0 0 = 2 | get 0 0 0 = 44 | get 0 0 1 = -56 | write 1 0 = 2 | get 0 0 1 = -41",
            "cell 23 0 9 | sheet 0 2 60 | lay 0 2 24 5 | write 0 0 = 24 | get 0 2 23 = 9 | get 0 2 24 = 5 | sheet 0 2 0 | write 40 0 = 0");
        says("BAD; NULL.", "write 41 0 = BAD | write -1 0 = BAD | write 0 4 = BAD | write 0 -1 = BAD | count 8 = 0 | write 40 0 = NULL | count 8 = 1");
    }

    private static void promisesOfCounts() {
        promise(36, "count", "`int count(int what)`:");
        says("0 PERSONS, 1 DIALS, 2 WALLS, 3 OUT, 4 bytes of all HABITS, 8 the number of the latest FINDING (0 before any).",
            "count 8 = 0 | person 0 0 0 | dial 1 0 0 | dial 1 0 0 | wall 0 1 true | wall 1 2 true | wall 0 6 true | set 0 -7 | habits 0 abcd | lose 0 | sheet 0 0 -1"
                + " | count 0 = 1 | count 1 = 2 | count 2 = 3 | count 3 = -7 | count 4 = 4 | count 8 = 5");
        says("BAD.", "count -1 = BAD | count 5 = BAD | count 6 = BAD | count 7 = BAD | count 9 = BAD");
        promise(37, "digest", "`long digest()`:");
        prose("h is 17; h becomes 31 h and each of: count() 0 to 4; fault() of PERSONS; all() 0, 1 of these; run() 0, 1; WARMTH of CELLS at the beginnings of "
            + "STEPS 0, 1, 20 and 40; numbers of DIALS behind STEP 39; ring(); as longs that wrap.");
        digest("count 0");
        digest(COLD + "person 1 200 200 | dial 3 1 0 | dial 0 7 230 | habits 0 k0:0+;k0:1- | habits 1 w9:0-;x | set 0 -5 | wall 0 1 true");
        digest(COLD + "cell 0 0 7 | person 22 300 300 | dial 4 0 0 | habits 0 k0:0+ | habits 1 k0:0-");
        digest(COLD + "cell 23 0 9 | dial 4 0 0 | dial 3 0 0 | habits 0 k0:0+;k0:0-");
    }

    private static void digest(String setup) {
        runs++;
        Desk desk = new Desk(DocumentTest::due);
        desk.plays(setup);
        List<String> asked = new ArrayList<>(List.of(each("count #", 0, 4).split(" \\| ")));
        int persons = (int) desk.call("count 0");
        for (int p = 0; p < persons; p++) {
            asked.add("fault " + p);
        }
        for (int p = 0; p < persons; p++) {
            asked.add("all " + p + " 0");
            asked.add("all " + p + " 1");
        }
        asked.addAll(List.of("run 0", "run 1"));
        for (int step : new int[] {0, 1, 20, 40}) {
            asked.addAll(List.of(each("warmth " + step + " # 0", 0, 23).split(" \\| ")));
        }
        for (int dial = 0; dial < desk.call("count 1"); dial++) {
            asked.add("number 39 " + dial);
        }
        asked.add("ring");
        long h = 17;
        for (String call : asked) {
            h = 31 * h + desk.call(call);
        }
        due("digest", desk.call("digest"), h);
    }

    private static void notPromised() {
        prose("## Not promised");
        prose("How the state is held inside the object is free, as are the speed of each call, the text of toString and the behaviour of equals and hashCode.");
        prose("Use of one object from several threads at once is not promised to be safe.");
        prose("Nothing is promised beyond the answers and state changes described above, and nothing about an object after its 512th call.");
    }
}
