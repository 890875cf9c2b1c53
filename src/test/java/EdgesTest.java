import java.math.BigInteger;
import java.util.ArrayList;
import java.util.Arrays;
import java.util.HashMap;
import java.util.List;
import java.util.Map;

/**
 * Every boundary case that the document names, each as a case of its own on a new object. A case is told as
 * calls, parted by " | ", with the answers that are due; Desk says how.
 */
public final class EdgesTest {
    private static final int PROMISES = 37;

    private static final String EMPTY = "count 0";
    /** Without FLOW and SOAK each CELL stays as it is but for DIALS. */
    private static final String STILL = "set 1 0 | set 2 0";
    /** PERSONS 0 to 2, DIALS 0 to 6 (0 and 6 are REAL), a SHEET of each FORM; SHEET 3 is LOST. */
    private static final String RICH = "set 0 50 | set 5 4 | cell 3 0 260 | cell 3 1 150 | wall 0 1 true | wall 8 14 true"
        + " | person 0 210 220 | person 8 190 200 | person 9 205 230"
        + " | dial 0 8 220 | dial 1 2 0 | dial 2 9 0 | dial 3 0 0 | dial 4 8 1 | dial 5 10 0 | dial 0 20 190"
        + " | habits 0 k1:3+;w1:3- | habits 1 w1:0-;k1:2+ | habits 2 k1:1+;k1:1-;w0:5+"
        + " | row 0 0 1 -1 1 | row 1 1 200 -1 210 1 | row 2 2 300 0 401 7";
    /** As much as there can be of everything but WALLS; no SHEET is LOST. */
    private static final String CROWDED = each("person # 200 210", 0, 5)
        + " | dial 0 0 220 | dial 0 23 230 | dial 1 2 0 | dial 2 3 0 | dial 3 4 0 | dial 4 5 0 | dial 5 6 0 | dial 3 8 1"
        + " | " + each("habits # k12:0+;k12:1+;k12:2+;k12:3+;w12:4+;w1:0-", 0, 5)
        + " | sheet 0 0 60 | sheet 1 1 60 | sheet 2 2 60 | sheet 3 2 60 | lay 0 0 59 7 | lay 1 1 59 8 | lay 2 2 59 9";

    private static int wrong = 0;
    private static int cases = 0;
    private static int promise = 0;
    private static String name = "";
    private static final int[] casesOf = new int[PROMISES + 1];

    public static void main(String[] args) {
        theFloor();
        personsAndDials();
        theRun();
        harmsAndFights();
        theBest();
        votesBeginningsSpans();
        sheets();
        limitsOfArguments();
        refusals();
        twoBadArguments();
        firstOfTwoRefusals();
        questionsChangeNothing();
        questionsLeaveOthers();
        changesAreSeen();
        for (int p = 1; p <= PROMISES; p++) {
            promise = p;
            due("cases of this promise", casesOf[p] > 0 ? 1 : 0, 1);
        }
        System.out.println(cases + " cases: " + (wrong == 0 ? "all answers are as due" : wrong + " answers are not as due"));
        if (wrong != 0) {
            System.exit(1);
        }
    }

    // ---- how a case is told

    private static void due(String call, long got, long want) {
        if (got != want) {
            wrong++;
            System.out.println("promise " + promise + ", " + name + ": " + call + " answered " + got + ", due is " + want);
        }
    }

    private static void begin(String caseName) {
        name = caseName;
        cases++;
        casesOf[promise]++;
    }

    private static void edge(String caseName, String... calls) {
        begin(caseName);
        Desk desk = new Desk(EdgesTest::due);
        for (String some : calls) {
            desk.plays(some);
        }
    }

    /** A call for each number from one to another, which comes in the place of #. */
    private static String each(String call, int from, int to) {
        List<String> calls = new ArrayList<>();
        for (int i = from; i <= to; i++) {
            calls.add(call.replace("#", String.valueOf(i)));
        }
        return String.join(" | ", calls);
    }

    private static String often(String call, int times) {
        return each(call, 1, times);
    }

    // ---- the floor

    private static void theFloor() {
        newObject();
        cells();
        reads();
        readItems();
        walls();
        settings();
        settingsAtWork();
    }

    private static void newObject() {
        promise = 1;
        edge("no PERSONS", "count 0 = 0 | fault 0 = BAD | wipe 0 = BAD | all 0 0 = BAD | seats 0 = BAD | seats NONE = 0");
        edge("no DIALS", "count 1 = 0 | number 0 0 = BAD | worth 0 = BAD | best 0 0 = NOT");
        edge("no WALLS", "count 2 = 0 | wall 0 1 false = 0 | wall 17 23 false = 0");
        edge("no bytes", "count 4 = 0");
        edge("no FINDING", "count 8 = 0");
        edge("all SHEETS are LOST", each("lose # = NULL", 0, 3));
        edge("WARMTH is 200", each("warmth 0 # 0 = 200", 0, 23));
        edge("STONE is 200", each("warmth 0 # 1 = 200", 0, 23));
        edge("nothing comes of it", each("warmth 40 # 0 = 200", 0, 23) + " | run 0 = 0 | run 1 = 0 | ring = 0");
        edge("OUT is 100", "count 3 = 100 | set 0 0 = 100");
        edge("LAWS at first", "set 1 0 = 10 | set 2 0 = 5 | set 3 0 = 10 | set 4 0 = 5 | set 5 1 = 3");
        begin("another object has its own floor");
        Desk one = new Desk(EdgesTest::due);
        Desk other = new Desk(EdgesTest::due);
        one.plays("cell 0 0 7 | set 0 7 | person 0 0 0 | dial 1 0 0 | wall 0 1 true | sheet 0 0 1 | lose 1");
        other.plays("warmth 0 0 0 = 200 | count 3 = 100 | count 0 = 0 | count 1 = 0 | count 2 = 0 | count 8 = 0 | lose 0 = NULL");
        edge("the last of 512 calls", often("cell 0 0 #", 400) + " | " + often("cell 1 0 #", 111) + " | warmth 0 1 0 = 111");
    }

    private static void cells() {
        promise = 2;
        edge("WARMTH 0 may be", "cell 0 0 0 = 200 | warmth 0 0 0 = 0");
        edge("WARMTH 400 may be", "cell 0 0 400 = 200 | warmth 0 0 0 = 400");
        edge("STONE 0 may be", "cell 0 1 0 = 200 | warmth 0 0 1 = 0");
        edge("STONE 400 may be", "cell 0 1 400 = 200 | warmth 0 0 1 = 400");
        edge("the last CELL", "cell 23 0 7 = 200 | warmth 0 23 0 = 7 | warmth 0 22 0 = 200 | warmth 0 0 0 = 200");
        edge("each CELL is its own", each("cell # 0 #", 0, 23), each("cell # 1 9 = 200", 0, 23), each("warmth 0 # 0 = #", 0, 23));
        edge("what it was the last time", "cell 5 0 1 = 200 | cell 5 0 2 = 1 | cell 5 0 2 = 2");
        edge("WARMTH is not STONE", "cell 5 0 1 | warmth 0 5 1 = 200 | cell 6 1 1 | warmth 0 6 0 = 200");
        edge("behind a refusal it is what it was", "cell 5 0 401 = BAD | cell 5 0 -1 = BAD | cell 5 0 7 = 200");
    }

    private static void reads() {
        promise = 3;
        edge("a SHEET of 0 items", "sheet 0 2 0 | read 0 0 = 0 | warmth 0 0 0 = 200");
        edge("a SHEET of 1 item", "row 0 2 300 | read 0 0 = 1 | warmth 0 0 0 = 300 | warmth 0 1 0 = 200");
        edge("23 items", "sheet 0 2 23 | read 0 0 = 23 | warmth 0 22 0 = 0 | warmth 0 23 0 = 200");
        edge("24 items are all CELLS", "sheet 0 2 24 | read 0 0 = 24 | warmth 0 23 0 = 0");
        edge("25 items are too many", "sheet 0 2 25 | read 0 0 = 24");
        edge("60 items", "sheet 0 2 60 | read 0 0 = 24 | warmth 0 0 0 = 0 | warmth 0 23 0 = 0");
        edge("60 items from the last CELL on", "sheet 0 2 60 | read 0 23 = 1 | warmth 0 22 0 = 200 | warmth 0 23 0 = 0");
        edge("items that end at the last CELL", "row 0 2 1 2 3 | read 0 21 = 3 | warmth 0 21 0 = 1 | warmth 0 23 0 = 3");
        edge("one item more does not go to CELL 0", "row 0 2 1 2 3 | read 0 22 = 2 | warmth 0 23 0 = 2 | warmth 0 0 0 = 200");
        edge("over the end of a row", "row 0 2 1 2 | read 0 5 = 2 | warmth 0 5 0 = 1 | warmth 0 6 0 = 2");
        edge("SHEET 3", "row 3 2 7 | read 3 0 = 1 | warmth 0 0 0 = 7");
        edge("STONE is not read", "row 0 2 7 | read 0 0 = 1 | warmth 0 0 1 = 200");
        edge("the SHEET stays", "row 0 2 7 8 | read 0 0 = 2 | get 0 2 0 = 7 | get 0 2 1 = 8 | lose 0 = 2");
        edge("LOST at first", "read 0 0 = NULL | count 8 = 1 | warmth 0 0 0 = 200");
        edge("LOST again", "sheet 0 2 3 | lose 0 = 3 | read 0 0 = NULL | count 8 = 1 | warmth 0 0 0 = 200");
    }

    private static void readItems() {
        promise = 3;
        edge("0 and 400 may be", "row 0 2 0 400 | read 0 0 = 2 | warmth 0 0 0 = 0 | warmth 0 1 0 = 400");
        edge("401 may not be", "row 0 2 5 401 6 | read 0 0 = 1 | warmth 0 0 0 = 5 | warmth 0 1 0 = 200 | warmth 0 2 0 = 200");
        edge("-1 may not be", "row 0 2 5 -1 6 | read 0 0 = 1 | warmth 0 1 0 = 200 | warmth 0 2 0 = 200");
        edge("the least int may not be", "row 0 2 MIN | read 0 0 = 0 | warmth 0 0 0 = 200");
        edge("the greatest int may not be", "row 0 2 MAX | read 0 0 = 0 | warmth 0 0 0 = 200");
        edge("the first one may not be", "row 0 2 401 5 | read 0 0 = 0 | warmth 0 0 0 = 200 | warmth 0 1 0 = 200");
        edge("no FINDING, if one may not be", "row 0 2 401 | read 0 0 = 0 | count 8 = 0");
        edge("one that may not be, behind the last CELL", "row 0 2 7 401 | read 0 23 = 1 | warmth 0 23 0 = 7");
        edge("a byte of 127, and one of 128", "row 0 0 127 128 | read 0 0 = 1 | warmth 0 0 0 = 127 | warmth 0 1 0 = 200");
        edge("a byte of 256 is 0", "row 0 0 256 | read 0 0 = 1 | warmth 0 0 0 = 0");
        edge("a short of 400, and one of 401", "row 0 1 400 401 | read 0 0 = 1 | warmth 0 0 0 = 400");
        edge("a short of 65543 is 7", "row 0 1 65543 | read 0 3 = 1 | warmth 0 3 0 = 7");
        edge("a short of 32768 is below 0", "row 0 1 32768 | read 0 3 = 0 | warmth 0 3 0 = 200");
    }

    private static void walls() {
        promise = 4;
        for (int a = -1; a <= 24; a++) {
            for (int b = -1; b <= 24; b++) {
                boolean cells = a >= 0 && a < 24 && b >= 0 && b < 24;
                boolean beside = Math.floorDiv(a, 6) == Math.floorDiv(b, 6) && Math.abs(a - b) == 1;
                boolean fits = cells && (beside || Math.abs(a - b) == 6);
                String pair = "wall " + a + " " + b;
                edge(pair, pair + " false = " + (fits ? "0" : "BAD"), pair + " true = " + (fits ? "1" : "BAD"),
                    "count 2 = " + (fits ? 1 : 0));
            }
        }
        edge("there is one already", "wall 0 1 true = 1 | wall 0 1 true = 0 | count 2 = 1");
        edge("turned round it is the same", "wall 1 0 true = 1 | wall 0 1 true = 0 | wall 6 0 true = 1 | wall 0 6 true = 0 | count 2 = 2");
        edge("taken away", "wall 0 1 true = 1 | wall 1 0 false = 1 | wall 0 1 false = 0 | count 2 = 0");
        edge("taken away above", "wall 0 6 true = 1 | wall 6 0 false = 1 | wall 0 6 false = 0 | count 2 = 0 | wall 17 23 true = 1 | wall 17 23 false = 1 | count 2 = 0",
            "set 2 0 | cell 0 0 300 | warmth 1 6 0 = 210");
        edge("one of two is taken away", "wall 0 1 true | wall 1 2 true | wall 0 6 true | wall 1 7 true | wall 0 1 false = 1 | wall 0 6 false = 1 | count 2 = 2",
            "wall 1 2 true = 0 | wall 1 7 true = 0");
        edge("beside and above are two", "wall 0 1 true = 1 | wall 0 6 true = 1 | wall 0 1 false = 1 | wall 0 6 true = 0 | count 2 = 1");
        StringBuilder beside = new StringBuilder("count 2 = 0");
        for (int row = 0; row < 24; row += 6) {
            for (int cell = row; cell < row + 5; cell++) {
                beside.append(" | wall ").append(cell).append(' ').append(cell + 1).append(" true = 1");
            }
        }
        StringBuilder above = new StringBuilder("count 2 = 20");
        for (int cell = 0; cell < 18; cell++) {
            above.append(" | wall ").append(cell).append(' ').append(cell + 6).append(" true = 1");
        }
        edge("38 WALLS are all", beside.toString(), above.toString(), "count 2 = 38 | set 2 0 | cell 7 0 400",
            "warmth 40 7 0 = 400 | warmth 40 8 0 = 200 | warmth 40 1 0 = 200 | wall 7 8 false = 1 | count 2 = 37");
        edge("a row's last CELL and the next row's first are no NEIGHBOURS", "set 2 0 | cell 5 0 300 | warmth 1 6 0 = 200",
            "warmth 1 4 0 = 210 | warmth 1 11 0 = 210 | warmth 1 5 0 = 280");
        edge("the next row's first CELL", "set 2 0 | cell 6 0 300 | warmth 1 5 0 = 200 | warmth 1 0 0 = 210 | warmth 1 7 0 = 210",
            "warmth 1 12 0 = 210 | warmth 1 6 0 = 270");
        edge("the last CELL of all", "set 2 0 | cell 23 0 300 | warmth 1 22 0 = 210 | warmth 1 17 0 = 210 | warmth 1 23 0 = 280",
            "warmth 1 0 0 = 200 | warmth 1 5 0 = 200 | warmth 1 18 0 = 200");
        edge("a CELL in the middle has four", "set 2 0 | cell 8 0 300 | warmth 1 8 0 = 260 | warmth 1 2 0 = 210 | warmth 1 7 0 = 210",
            "warmth 1 9 0 = 210 | warmth 1 14 0 = 210 | warmth 1 1 0 = 200 | warmth 1 3 0 = 200");
    }

    private static void settings() {
        promise = 5;
        int[] least = {-200, 0, 0, 0, 0, 1};
        int[] most = {400, 20, 20, 30, 20, 60};
        int[] first = {100, 10, 5, 10, 5, 3};
        for (int what = 0; what < 6; what++) {
            String set = "set " + what + " ";
            edge(set + "to its least", set + least[what] + " = " + first[what], set + least[what] + " = " + least[what]);
            edge(set + "to its most", set + most[what] + " = " + first[what], set + most[what] + " = " + most[what]);
            edge(set + "behind refusals", set + (most[what] + 1) + " = BAD", set + (least[what] - 1) + " = BAD",
                set + first[what] + " = " + first[what]);
        }
        edge("each is its own", "set 0 1 | set 1 2 | set 2 3 | set 3 4 | set 4 5 | set 5 6",
            "set 0 0 = 1 | set 1 0 = 2 | set 2 0 = 3 | set 3 0 = 4 | set 4 0 = 5 | set 5 1 = 6");
    }

    private static void settingsAtWork() {
        promise = 5;
        String pressed = STILL + " | person 0 201 201 | dial 1 0 0 | habits 0 k0:0+;k0:0-";
        edge("OUT 400", STILL, "dial 5 0 1 | set 0 400 | warmth 1 0 0 = 240");
        edge("OUT -200", STILL, "dial 5 0 1 | set 0 -200 | warmth 1 0 0 = 120");
        edge("FLOW 0", "set 2 0 | set 1 0 | cell 0 0 400 | warmth 40 0 0 = 400 | warmth 40 1 0 = 200");
        edge("FLOW 20", "set 2 0 | set 1 20 | cell 0 0 300 | warmth 1 0 0 = 260 | warmth 1 1 0 = 220");
        edge("SOAK 0", "set 1 0 | set 2 0 | cell 0 0 300 | warmth 40 0 0 = 300 | warmth 40 0 1 = 200");
        edge("SOAK 20", "set 1 0 | set 2 20 | cell 0 0 300 | warmth 1 0 0 = 280 | warmth 1 0 1 = 220");
        edge("POWER 0", STILL, "set 3 0 | dial 0 0 300 | warmth 40 0 0 = 200 | run 0 = 240");
        edge("POWER 30", STILL, "set 3 30 | dial 0 0 300 | warmth 1 0 0 = 230 | warmth 1 5 0 = 230 | warmth 1 6 0 = 200");
        edge("TOUCH 0", pressed, "set 4 0 | did 0 0 0 = 1 | did 0 0 1 = 98");
        edge("TOUCH 20", pressed, "set 4 20 | did 0 0 0 = 1 | did 0 0 1 = 118");
        edge("TRIES 1", pressed, "set 5 1 | all 0 0 = 1");
        edge("TRIES 39", pressed, "set 5 39 | all 0 0 = 39");
        edge("TRIES 60 are more than STEPS", pressed, "set 5 60 | all 0 0 = 40");
    }

    // ---- persons, dials

    private static void personsAndDials() {
        persons();
        seatsOfPersons();
        types();
        wipes();
        faultsByEachByte();
        faults();
        dials();
        tunes();
    }

    private static void persons() {
        promise = 6;
        edge("one that likes 0 alone", "person 0 0 0 = 0");
        edge("one that likes 400 alone", "person 0 400 400 = 0");
        edge("one that likes all", "person 0 0 400 = 0 | all 0 1 = 4000");
        edge("the second as the first", "person 0 200 200 = 0 | did 0 0 1 = 100");
        edge("the second less by 1", "person 0 200 199 = BAD | count 0 = 0");
        edge("401 and 401", "person 0 401 401 = BAD");
        edge("-1 and -1", "person 0 -1 -1 = BAD");
        edge("the least and the greatest int", "person 0 MIN MAX = BAD | person 0 MAX MIN = BAD");
        edge("the last CELL", "person 23 0 0 = 0 | seat 0 0 = 23");
        edge("six PERSONS", often("person 0 0 400", 5), "person 0 0 400 = 5 | count 0 = 6 | fault 5 = NONE | fault 6 = BAD");
        edge("the seventh", often("person 0 0 400", 6), "person 0 0 400 = FULL | count 0 = 6 | run 1 = 24000");
        edge("numbers from 0 on", "person 0 0 0 = 0 | person 0 0 0 = 1 | person 0 0 0 = 2 | person 0 0 0 = 3 | person 0 0 0 = 4");
        edge("several share a SEAT", "person 7 0 400 = 0 | person 7 0 400 = 1 | seat 0 7 = 7 | seat 1 7 = 7");
        edge("their HABITS are empty", "person 0 0 0 | fault 0 = NONE | wipe 0 = 0 | count 4 = 0");
        edge("a refused one has no number", "person 24 0 0 = BAD | person 0 0 0 = 0");
    }

    private static void seatsOfPersons() {
        promise = 7;
        edge("the first and the last CELL", "person 5 0 0 | seat 0 0 = 5 | seat 0 23 = 0 | seat 0 5 = 23");
        edge("the SEAT that it has", "person 5 0 0 | seat 0 5 = 5 | seat 0 5 = 5");
        edge("the SEAT of another one", "person 5 0 0 | person 6 0 0 | seat 0 6 = 5 | seat 1 6 = 6 | seat 0 6 = 6");
        edge("the sixth one", often("person 5 0 0", 6), "seat 5 7 = 5 | seat 5 7 = 7 | seat 4 5 = 5");
        edge("nobody", "seat 0 0 = BAD");
        edge("behind refusals", "person 5 0 0 | seat 0 24 = BAD | seat 0 -1 = BAD | seat 1 0 = BAD | seat 0 0 = 5");
        edge("where it sits it is felt", STILL, "person 5 200 200 | cell 6 0 249 | did 0 0 1 = 100 | seat 0 6 | did 0 0 1 = 2");
    }

    private static void types() {
        promise = 8;
        edge("byte 0", "person 0 0 0 | type 0 0 = 1 | count 4 = 1");
        edge("byte 255", "person 0 0 0 | type 0 255 = 1 | count 4 = 1");
        edge("a k and 256 is no k", "person 0 0 0 | type 0 363 = BAD | count 4 = 0 | type 0 107 = 1 | fault 0 = 1");
        edge("the 40th byte", "person 0 0 0", often("type 0 107", 38), "type 0 107 = 39 | type 0 107 = 40 | count 4 = 40");
        edge("the 41st byte", "person 0 0 0", often("type 0 107", 40), "type 0 107 = FULL | count 4 = 40 | wipe 0 = 40");
        edge("each has 40 bytes of its own", often("person 0 0 0", 6), often("type 0 65", 40),
            "type 0 65 = FULL | type 1 65 = 1 | type 5 65 = 1 | count 4 = 42");
        edge("six times 40 bytes", often("person 0 0 0", 6), often("type 0 65", 40), often("type 1 65", 40), often("type 2 65", 40),
            often("type 3 65", 40), often("type 4 65", 40), often("type 5 65", 40), each("type # 65 = FULL", 0, 5), "count 4 = 240");
        edge("behind FULL it can be wiped", "person 0 0 0", often("type 0 107", 40), "type 0 107 = FULL | wipe 0 = 40 | type 0 107 = 1");
        edge("a refused byte does not come behind a text", "person 0 0 0 | habits 0 k1:0 | type 0 256 = BAD | type 0 -1 = BAD",
            "fault 0 = 4 | type 0 43 = 5 | fault 0 = NONE");
        edge("nobody", "type 0 65 = BAD | count 4 = 0");
    }

    private static void wipes() {
        promise = 9;
        edge("no bytes", "person 0 0 0 | wipe 0 = 0");
        edge("one byte", "person 0 0 0 | type 0 65 | wipe 0 = 1 | wipe 0 = 0");
        edge("40 bytes", "person 0 0 0", often("type 0 65", 40), "wipe 0 = 40 | count 4 = 0 | wipe 0 = 0");
        edge("of one alone", "person 0 0 0 | person 0 0 0 | habits 0 ab | habits 1 abc | wipe 0 = 2 | count 4 = 3 | wipe 1 = 3");
        edge("a FAULT goes with it", "person 0 0 0 | habits 0 x | fault 0 = 0 | wipe 0 = 1 | fault 0 = NONE | habits 0 k1:0+",
            "fault 0 = NONE");
        edge("half a part goes with it", "person 0 0 0 | habits 0 k12 | wipe 0 = 3 | type 0 49 = 1 | fault 0 = 0");
        edge("a number goes with it", STILL, "person 0 205 210 | dial 3 5 0 | habits 0 k9:0+ | all 0 0 = 0 | wipe 0 = 5 | habits 0 k5:0+",
            "all 0 0 = 1");
        edge("the acts go with it", STILL, "person 0 300 300 | dial 3 5 0 | habits 0 k0:0+ | all 0 0 = 1 | wipe 0 = 5 | all 0 0 = 0");
        edge("nobody", "wipe 0 = BAD");
    }

    /** Each of the 256 bytes at each place where a text can be. */
    private static void faultsByEachByte() {
        promise = 10;
        String figures = "0123456789";
        String[] texts = {"", "w", "k0", "k01", "k012", "k3:", "k3:7", "k3:7-", "k3:7-;", "k3:7-;w"};
        String[] goOn = {"kw", figures, figures + ":", figures + ":", ":", "01234567", "+-", ";", "kw", figures};
        for (int i = 0; i < texts.length; i++) {
            for (int b = 0; b < 256; b++) {
                int there = texts[i].length();
                boolean ends = texts[i].endsWith(":7");
                String due = goOn[i].indexOf((char) b) < 0 ? String.valueOf(there) : ends ? "NONE" : String.valueOf(there + 1);
                String before = there == 0 ? "" : "habits 0 " + texts[i] + " | ";
                edge("byte " + b + " behind '" + texts[i] + "'", "person 0 0 0", before + "type 0 " + b, "fault 0 = " + due);
            }
        }
    }

    private static void fault(String text, String due) {
        edge("'" + text + "'", "person 0 0 0 | habits 0 " + text + " | fault 0 = " + due);
    }

    private static void faults() {
        promise = 10;
        edge("an empty text is well", "person 0 0 0 | fault 0 = NONE");
        edge("nobody", "fault 0 = BAD");
        edge("the sixth one", often("person 0 0 0", 6), "habits 5 kk | fault 5 = 1 | fault 4 = NONE | fault 6 = BAD");
        fault("k0:0+", "NONE");
        fault("w999:7-", "NONE");
        fault("k1000:7-", "4");
        fault("k:7-", "1");
        fault("k1:8-", "3");
        fault("k1:10-", "4");
        fault("k1:0+-", "5");
        fault("k1:0+;", "6");
        fault("k1:0+;;k1:0+", "6");
        fault(";k1:0+", "0");
        fault("k1:0+k1:0+", "5");
        fault("x1:0+", "0");
        fault("kx1:0+", "1");
        fault("k-1:0+", "1");
        String five = "k12:7+;k12:7+;k12:7+;k12:7+;k12:7+;";
        fault(five + "k1:0+", "NONE");
        fault(five + "k1:0*", "39");
        fault(five + "k12:0", "40");
        fault("k123:7+;k123:7+;k123:7+;k123:7+;k123:7+", "NONE");
        fault("k123:7+;k123:7+;k123:7+;k123:7+;k123:7+;", "40");
        fault("k0:0+;k0:0+;k0:0+;k0:0+;k0:0+;k0:0+;k0:0", "40");
        fault("k0:0+;k0:0+;k0:0+;k0:0+;k0:0+;k0:0+", "NONE");
        fault("k0:0+;k0:0+;k0:0+;k0:0+;k0:0+;k0:0+;x", "36");
        String cold = STILL + " | person 0 300 300 | dial 3 5 0";
        edge("the last part of 40 bytes is done", cold, "habits 0 " + five + "k1:0+", "count 4 = 40 | all 0 0 = 1 | number 0 0 = 1");
        edge("of six parts the sixth is done", cold, "habits 0 k0:7+;k0:7+;k0:7+;k0:7+;k0:7+;k0:0+ | all 0 0 = 1");
        edge("with a FAULT at the end they have none", cold, "habits 0 k1:0+; | all 0 0 = 0 | number 39 0 = 0");
        edge("with a FAULT in the second part they have none", cold, "habits 0 k1:0+;x | all 0 0 = 0");
        edge("what makes it well gives them back", cold, "habits 0 k1:0+; | all 0 0 = 0 | habits 0 k1:0- | all 0 0 = 40");
    }

    private static void dials() {
        promise = 11;
        edge("REAL from 100 on", "dial 0 0 99 = BAD | dial 0 0 100 = 0 | number 0 0 = 100");
        edge("REAL up to 300", "dial 0 0 301 = BAD | dial 0 0 300 = 0 | number 0 0 = 300");
        for (int kind = 1; kind <= 5; kind++) {
            String dial = "dial " + kind + " 0 ";
            edge("KIND " + kind + " is off or on", dial + "0 = 0 | number 0 0 = 0 | " + dial + "1 = 1 | number 0 1 = 1");
            edge("KIND " + kind + " is nothing else", dial + "2 = BAD | " + dial + "-1 = BAD | " + dial + "100 = BAD | count 1 = 0");
        }
        edge("REAL is not off or on", "dial 0 0 0 = BAD | dial 0 0 1 = BAD | count 1 = 0");
        edge("the eighth", often("dial 1 0 0", 7), "dial 5 23 1 = 7 | count 1 = 8 | number 0 7 = 1 | number 0 8 = BAD");
        edge("the ninth", often("dial 1 0 0", 8), "dial 1 0 0 = FULL | dial 0 0 200 = FULL | count 1 = 8");
        edge("a refused one has no number", "dial 6 0 0 = BAD | dial 1 24 0 = BAD | dial 1 0 0 = 0");
        int[] ends = {0, 5, 6, 11, 12, 17, 18, 23};
        for (int cell : ends) {
            edge("FEELER and GRILLES at first, CELL " + cell, "dial 0 " + cell + " 200 | tune 0 0 1 = " + cell,
                "tune 0 1 1 = " + (63 << cell / 6 * 6));
        }
        edge("KIND in two CELLS", "dial 3 0 1 | dial 3 23 1 | set 1 0 | set 2 0 | warmth 1 0 0 = 215 | warmth 1 23 0 = 215",
            "warmth 1 1 0 = 200");
        String seven = STILL + " | person 0 300 300 | " + often("dial 4 0 0", 7);
        edge("there is no DIAL 7 among seven", seven, "habits 0 k0:7+ | all 0 0 = 0 | dial 4 0 0 = 7 | all 0 0 = 1 | number 0 7 = 1");
    }

    private static void tunes() {
        promise = 12;
        String real = "dial 0 8 205";
        edge("FEELER in the first CELL", real, "tune 0 0 0 = 8 | tune 0 0 1 = 0");
        edge("FEELER in the last CELL", real, "tune 0 0 23 = 8 | tune 0 0 1 = 23");
        edge("FEELER behind refusals", real, "tune 0 0 24 = BAD | tune 0 0 -1 = BAD | tune 0 0 1 = 8");
        edge("GRILLES of CELL 0 alone", real, "tune 0 1 1 = 4032 | tune 0 1 2 = 1");
        edge("GRILLES of CELL 23 alone", real, "tune 0 1 8388608 = 4032 | tune 0 1 2 = 8388608");
        edge("GRILLES of all CELLS", real, "tune 0 1 16777215 = 4032 | tune 0 1 2 = 16777215");
        edge("no GRILLES", real, "tune 0 1 0 = BAD | tune 0 1 1 = 4032");
        edge("GRILLES of a CELL 24", real, "tune 0 1 16777216 = BAD | tune 0 1 16777217 = BAD | tune 0 1 1 = 4032");
        edge("GRILLES below 0", real, "tune 0 1 -1 = BAD | tune 0 1 MIN = BAD | tune 0 1 MAX = BAD | tune 0 1 1 = 4032");
        edge("the number 100", real, "tune 0 2 100 = 205 | number 0 0 = 100");
        edge("the number 300", real, "tune 0 2 300 = 205 | number 0 0 = 300");
        edge("the number behind refusals", real, "tune 0 2 99 = BAD | tune 0 2 301 = BAD | tune 0 2 1 = BAD | tune 0 2 200 = 205");
        for (int kind = 1; kind <= 5; kind++) {
            edge("KIND " + kind + " has a number alone", "dial " + kind + " 3 1 | tune 0 0 0 = BAD | tune 0 1 1 = BAD",
                "tune 0 2 0 = 1 | tune 0 2 1 = 0 | tune 0 2 2 = BAD | tune 0 2 -1 = BAD | tune 0 2 100 = BAD | number 0 0 = 1");
        }
        edge("nothing else", real, "tune 0 3 8 = BAD | tune 0 -1 8 = BAD");
        edge("no such DIAL", "tune 0 2 1 = BAD | tune -1 2 1 = BAD");
        edge("the eighth", often("dial 1 0 0", 7), "dial 0 9 150 | tune 7 0 0 = 9 | tune 7 1 1 = 4032 | tune 7 2 100 = 150",
            "tune 8 2 100 = BAD");
        edge("of one alone", real + " | dial 0 1 150", "tune 0 2 300 | tune 0 0 5 | tune 0 1 5 | tune 1 2 150 = 150 | tune 1 0 1 = 1",
            "tune 1 1 63 = 63");
    }

    // ---- a run

    private static void theRun() {
        stepsAndNumbers();
        flowIsCut();
        soakIsCut();
        windowsAreCut();
        halvesAreCut();
        warmthIsKept();
        realDials();
        fans();
        pressing();
        falseDials();
        whatFits();
        points();
        costs();
    }

    private static void stepsAndNumbers() {
        promise = 13;
        edge("STEP 0 is the beginning", "cell 5 0 7 | cell 5 1 8 | warmth 0 5 0 = 7 | warmth 0 5 1 = 8");
        edge("STEP 40 is the end", STILL, "dial 2 0 1 | cell 1 0 0 | warmth 39 1 0 = 390 | warmth 40 1 0 = 400 | warmth 41 1 0 = BAD");
        edge("behind a change it is another RUN", STILL, "dial 3 0 0 | warmth 1 0 0 = 200 | tune 0 2 1 | warmth 1 0 0 = 215");
        promise = 14;
        edge("STEP 0 behind its acts", STILL, "person 0 300 300 | dial 4 0 0 | habits 0 k0:0+;k0:0- | number 0 0 = 1 | number 1 0 = 0");
        edge("STEP 39 is the last", STILL, "person 0 300 300 | dial 4 0 0 | habits 0 k0:0+;k0:0- | number 39 0 = 0 | number 40 0 = BAD");
        edge("no DIALS", "number 0 0 = BAD | number 39 0 = BAD");
        edge("eight DIALS", often("dial 1 0 1", 8), each("number 39 # = 1", 0, 7), "number 39 8 = BAD");
    }

    private static void flowIsCut() {
        promise = 13;
        String flow = "set 2 0";
        edge("9 warmer: nothing goes", flow, "cell 8 0 209 | warmth 1 8 0 = 209 | warmth 1 9 0 = 200 | warmth 1 2 0 = 200");
        edge("10 warmer: 1 goes", flow, "cell 8 0 210 | warmth 1 8 0 = 206 | warmth 1 9 0 = 201 | warmth 1 7 0 = 201");
        edge("19 warmer: 1 goes", flow, "cell 8 0 219 | warmth 1 8 0 = 215 | warmth 1 9 0 = 201 | warmth 1 14 0 = 201");
        edge("20 warmer: 2 go", flow, "cell 8 0 220 | warmth 1 8 0 = 212 | warmth 1 9 0 = 202 | warmth 1 2 0 = 202");
        edge("9 colder: nothing comes", flow, "cell 8 0 191 | warmth 1 8 0 = 191 | warmth 1 9 0 = 200 | warmth 1 7 0 = 200");
        edge("10 colder: 1 comes", flow, "cell 8 0 190 | warmth 1 8 0 = 194 | warmth 1 9 0 = 199 | warmth 1 7 0 = 199");
        edge("19 colder: 1 comes", flow, "cell 8 0 181 | warmth 1 8 0 = 185 | warmth 1 9 0 = 199 | warmth 1 7 0 = 199",
            "warmth 1 2 0 = 199 | warmth 1 14 0 = 199");
        edge("99 warmer, by FLOW 1: nothing goes", flow, "set 1 1 | cell 8 0 299 | warmth 1 8 0 = 299 | warmth 1 9 0 = 200");
        edge("100 warmer, by FLOW 1: 1 goes", flow, "set 1 1 | cell 8 0 300 | warmth 1 8 0 = 296 | warmth 1 9 0 = 201");
        edge("9 warmer, by FLOW 11: nothing goes", flow, "set 1 11 | cell 8 0 209 | warmth 1 8 0 = 209 | warmth 1 9 0 = 200");
        edge("400 warmer, by FLOW 20: 80", flow, "set 1 20 | row 0 2 400 0 | read 0 0 | wall 0 6 true | wall 1 7 true | wall 1 2 true",
            "warmth 1 0 0 = 320 | warmth 1 1 0 = 80");
        edge("by WARMTH as it was", flow, "cell 0 0 300 | cell 1 0 250 | warmth 1 0 0 = 285 | warmth 1 1 0 = 245 | warmth 1 2 0 = 205");
    }

    private static void soakIsCut() {
        promise = 13;
        String soak = "set 1 0";
        edge("19 warmer than STONE: nothing", soak, "cell 0 0 219 | warmth 1 0 0 = 219 | warmth 1 0 1 = 200");
        edge("20 warmer than STONE: 1", soak, "cell 0 0 220 | warmth 1 0 0 = 219 | warmth 1 0 1 = 201");
        edge("39 warmer than STONE: 1", soak, "cell 0 0 239 | warmth 1 0 0 = 238 | warmth 1 0 1 = 201");
        edge("STONE 19 warmer: nothing", soak, "cell 0 1 219 | warmth 1 0 0 = 200 | warmth 1 0 1 = 219");
        edge("STONE 20 warmer: 1", soak, "cell 0 1 220 | warmth 1 0 0 = 201 | warmth 1 0 1 = 219");
        edge("STONE 39 warmer: 1", soak, "cell 0 1 239 | warmth 1 0 0 = 201 | warmth 1 0 1 = 238");
        edge("99 warmer than STONE, by SOAK 1: nothing", soak, "set 2 1 | cell 0 0 299 | warmth 1 0 0 = 299 | warmth 1 0 1 = 200");
        edge("100 warmer than STONE, by SOAK 1: 1", soak, "set 2 1 | cell 0 0 300 | warmth 1 0 0 = 299 | warmth 1 0 1 = 201");
        edge("STONE 99 warmer, by SOAK 1: nothing", soak, "set 2 1 | cell 0 1 299 | warmth 1 0 0 = 200 | warmth 1 0 1 = 299");
        edge("STONE 400, WARMTH 0", soak, "cell 0 1 400 | cell 0 0 0 | warmth 1 0 0 = 20 | warmth 1 0 1 = 380");
        edge("STONE 0, WARMTH 400", soak, "cell 0 1 0 | cell 0 0 400 | warmth 1 0 0 = 380 | warmth 1 0 1 = 20");
        // 520, then 120 * 20 / 100 = 24 to the STONE, then 176 * 20 / 100 = 35.
        edge("STONE is not kept below 400", "set 1 0 | set 2 20 | cell 0 0 400 | cell 0 1 400", often("dial 3 0 1", 8),
            "warmth 1 0 0 = 520 | warmth 2 0 0 = 600 | warmth 2 0 1 = 424 | warmth 3 0 0 = 600 | warmth 3 0 1 = 459");
    }

    private static void windowsAreCut() {
        promise = 13;
        String window = STILL + " | dial 5 9 1";
        int[][] outs = {{200, 200}, {196, 200}, {195, 199}, {191, 199}, {190, 198}, {204, 200}, {205, 201}, {209, 201}, {210, 202},
            {0, 160}, {-1, 160}, {-4, 160}, {-5, 159}, {400, 240}, {399, 239}};
        for (int[] out : outs) {
            edge("OUT is " + out[0], window, "set 0 " + out[0] + " | warmth 1 9 0 = " + out[1] + " | warmth 1 8 0 = 200",
            "warmth 1 10 0 = 200");
        }
        edge("a CELL of 1, OUT -3: nothing goes", window, "cell 9 0 1 | set 0 -3 | warmth 1 9 0 = 1");
        edge("a CELL of 1, OUT -4: 1 goes", window, "cell 9 0 1 | set 0 -4 | warmth 1 9 0 = 0");
        edge("a CELL of 1, OUT -200: 0 at least", window, "cell 9 0 1 | set 0 -200 | warmth 1 9 0 = 0");
        edge("a WINDOW that is off", window, "tune 0 2 0 | set 0 -200 | warmth 40 9 0 = 200");
        edge("STONE stays", window, "set 0 -200 | warmth 40 9 1 = 200");
    }

    private static void halvesAreCut() {
        promise = 13;
        int[][] powers = {{1, 0}, {2, 1}, {3, 1}, {7, 3}, {29, 14}, {30, 15}};
        for (int[] power : powers) {
            String shut = STILL + " | dial 4 6 1 | dial 0 8 200 | set 3 " + power[0];
            edge("half of " + power[0] + " is given", shut, "tune 1 2 300 | warmth 1 6 0 = " + (200 + power[1]), "warmth 1 7 0 = " + (200 + power[0]));
            edge("half of " + power[0] + " is taken", shut, "tune 1 2 100 | warmth 1 6 0 = " + (200 - power[1]), "warmth 1 7 0 = " + (200 - power[0]));
        }
        edge("a SHUT that is off", STILL, "dial 4 6 0 | dial 0 8 300 | warmth 1 6 0 = 210");
        edge("a SHUT where there are no GRILLES", STILL, "dial 4 0 1 | dial 0 8 300 | warmth 1 0 0 = 200 | warmth 1 6 0 = 210");
        edge("a SHUT does not halve a HEATER", STILL, "dial 4 6 1 | dial 3 6 1 | warmth 1 6 0 = 215");
        edge("each REAL one is halved", STILL, "set 3 7 | dial 4 6 1 | dial 0 8 300 | dial 0 9 300 | warmth 1 6 0 = 206",
            "warmth 1 7 0 = 214");
    }

    private static void warmthIsKept() {
        promise = 13;
        edge("10 taken from 9", STILL, "cell 0 0 9 | dial 2 0 1 | warmth 1 0 0 = 0 | warmth 1 1 0 = 210");
        edge("10 taken from 10", STILL, "cell 0 0 10 | dial 2 0 1 | warmth 1 0 0 = 0");
        edge("10 taken from 11", STILL, "cell 0 0 11 | dial 2 0 1 | warmth 1 0 0 = 1 | warmth 2 0 0 = 0");
        edge("600 at most", STILL, "cell 2 0 400 | dial 2 1 1 | warmth 19 2 0 = 590 | warmth 20 2 0 = 600 | warmth 21 2 0 = 600",
            "warmth 40 2 0 = 600");
        edge("599 and 10", STILL, "cell 2 0 399 | dial 2 1 1 | warmth 20 2 0 = 599 | warmth 21 2 0 = 600");
        edge("0 at least, and the next one is given still", STILL, "dial 2 0 1 | warmth 20 0 0 = 0 | warmth 21 0 0 = 0",
            "warmth 21 1 0 = 410");
        edge("all is counted first, then kept from below", STILL, "cell 0 0 0 | dial 2 0 1 | dial 3 0 1 | warmth 1 0 0 = 5");
        edge("all is counted first, then kept from above", STILL, "cell 0 0 400 | dial 3 0 1 | dial 3 0 1 | dial 2 0 1 | warmth 9 0 0 = 580",
            "warmth 10 0 0 = 600 | warmth 11 0 0 = 600");
        edge("600 at most, though it flows", "set 2 0 | cell 0 0 400", often("dial 3 0 1", 8), "warmth 40 0 0 = 600");
        edge("STONE and FLOW between 0 and 0", "sheet 0 0 24 | read 0 0 = 24", each("cell # 1 0", 0, 23), each("warmth 40 # 0 = 0", 0, 23));
    }

    private static void realDials() {
        promise = 13;
        edge("at its number it rests", STILL, "dial 0 0 200 | warmth 1 0 0 = 200 | warmth 40 0 0 = 200");
        edge("1 below its number it gives", STILL, "dial 0 0 201 | warmth 1 0 0 = 210 | warmth 2 0 0 = 200");
        edge("1 above its number it takes", STILL, "dial 0 0 199 | warmth 1 0 0 = 190 | warmth 2 0 0 = 200");
        edge("its row from end to end", STILL, "dial 0 8 300 | warmth 1 5 0 = 200 | warmth 1 6 0 = 210 | warmth 1 11 0 = 210",
            "warmth 1 12 0 = 200");
        edge("GRILLES in CELLS 0 and 23 alone", STILL, "dial 0 8 300 | tune 0 1 8388609 | warmth 1 0 0 = 210 | warmth 1 23 0 = 210",
            "warmth 1 1 0 = 200 | warmth 1 22 0 = 200 | warmth 1 8 0 = 200");
        edge("GRILLES in all CELLS", STILL, "dial 0 8 300 | tune 0 1 16777215", each("warmth 1 # 0 = 210", 0, 23));
        edge("FEELER in the last CELL", STILL, "dial 0 0 250 | tune 0 0 23 | cell 23 0 251 | warmth 1 0 0 = 190 | cell 23 0 249",
            "warmth 1 0 0 = 210");
        edge("the number 300 is reached", STILL, "dial 0 0 300 | warmth 10 0 0 = 300 | warmth 40 0 0 = 300");
        edge("the number 100 is reached", STILL, "dial 0 0 100 | warmth 10 0 0 = 100 | warmth 40 0 0 = 100");
        edge("eight of them", STILL, often("dial 0 0 300", 8), "warmth 1 0 0 = 280 | warmth 2 0 0 = 360 | warmth 3 0 0 = 280");
        edge("by the number behind the acts", STILL, "person 0 300 300 | dial 0 0 200 | habits 0 k0:0+ | warmth 1 0 0 = 210");
    }

    private static void fans() {
        promise = 13;
        for (int cell = 0; cell < 24; cell++) {
            int next = cell % 6 == 5 ? cell - 1 : cell + 1;
            StringBuilder then = new StringBuilder("set 1 0");
            for (int other = 0; other < 24; other++) {
                int due = other == cell ? 190 : other == next ? 210 : 200;
                then.append(" | warmth 1 ").append(other).append(" 0 = ").append(due);
            }
            edge("a FAN in CELL " + cell, STILL, "dial 2 " + cell + " 1", then.toString());
        }
        edge("a FAN that is off", STILL, "dial 2 0 0 | warmth 40 0 0 = 200 | warmth 40 1 0 = 200");
        edge("two FANS in one CELL", STILL, "dial 2 0 1 | dial 2 0 1 | warmth 1 0 0 = 180 | warmth 1 1 0 = 220");
        edge("two FANS against one another", STILL, "dial 2 4 1 | dial 2 5 1 | warmth 40 4 0 = 200 | warmth 40 5 0 = 200");
        edge("a HEATER that is off", STILL, "dial 3 0 0 | warmth 40 0 0 = 200");
        edge("a FALSE one that is on", STILL, "dial 1 0 1 | warmth 40 0 0 = 200 | run 0 = 0");
    }

    /** What can be done with a DIAL: a PERSON who is COLD by 100 in each STEP, and tries. */
    private static void presses(String caseName, String number, String sign, int acts, int last) {
        edge(caseName, STILL, "person 0 300 300 | dial 0 23 " + number + " | tune 0 1 8388608 | habits 0 k0:0" + sign,
            "all 0 0 = " + acts + " | number 39 0 = " + last, "did 0 0 0 = " + (acts > 0 ? 1 : 0) + " | did 39 0 0 = 0");
    }

    private static void pressing() {
        promise = 14;
        presses("290 and 10 more", "290", "+", 1, 300);
        presses("291 and 10 more", "291", "+", 0, 291);
        presses("300 and 10 more", "300", "+", 0, 300);
        presses("110 and 10 less", "110", "-", 1, 100);
        presses("109 and 10 less", "109", "-", 0, 109);
        presses("100 and 10 less", "100", "-", 0, 100);
        presses("from 100 to 300", "100", "+", 20, 300);
        presses("from 300 to 100", "300", "-", 20, 100);
        presses("from 101 to 291", "101", "+", 19, 291);
        presses("from 299 to 109", "299", "-", 19, 109);
        for (int kind = 1; kind <= 5; kind++) {
            String dial = STILL + " | person 0 300 300 | dial " + kind + " 23 ";
            edge("KIND " + kind + " is turned on, if it is off", dial + "0", "habits 0 k0:0+ | all 0 0 = 1 | number 0 0 = 1",
            "number 39 0 = 1");
            edge("KIND " + kind + " is on already", dial + "1", "habits 0 k0:0+ | all 0 0 = 0 | number 39 0 = 1");
            edge("KIND " + kind + " is turned off, if it is on", dial + "1", "habits 0 k0:0- | all 0 0 = 1 | number 0 0 = 0",
            "number 39 0 = 0");
            edge("KIND " + kind + " is off already", dial + "0", "habits 0 k0:0- | all 0 0 = 0 | number 39 0 = 0");
        }
        edge("what cannot be done leaves it to the next part", STILL, "person 0 300 300 | dial 0 23 300 | dial 4 0 0 | habits 0 k0:0+;k0:1+",
            "number 0 1 = 1 | number 0 0 = 300 | all 0 0 = 1");
        edge("what is done leaves nothing to the next part", STILL, "person 0 300 300 | dial 4 0 0 | dial 4 0 0 | habits 0 k0:0+;k0:1+",
            "number 0 0 = 1 | number 0 1 = 0 | number 1 1 = 1 | all 0 0 = 2");
        edge("by numbers: the second one finds it on", STILL, often("person 0 300 300", 2), "dial 4 0 0 | habits 0 k0:0+ | habits 1 k0:0+",
            "did 0 0 0 = 1 | did 0 1 0 = 0 | all 1 0 = 0");
    }

    private static void falseDials() {
        promise = 15;
        String one = STILL + " | person 0 300 300 | dial 1 0 0 | habits 0 k0:0+;k0:0-";
        edge("three TRIES at first", one, "did 0 0 0 = 1 | did 1 0 0 = 1 | did 2 0 0 = 1 | did 3 0 0 = 0 | all 0 0 = 3 | number 39 0 = 1");
        edge("two TRIES", one, "set 5 2 | all 0 0 = 2 | number 39 0 = 0");
        edge("one TRY", one, "set 5 1 | all 0 0 = 1 | number 39 0 = 1");
        edge("what cannot be done is no TRY", STILL, "set 5 1 | person 0 300 300 | dial 1 0 1 | habits 0 k0:0+;k0:0- | all 0 0 = 1",
            "number 39 0 = 0");
        edge("TRIES of each with each", STILL, "person 0 300 300 | person 0 300 300 | dial 1 0 0 | dial 1 0 0",
            "habits 0 k0:0+;k0:0-;k0:1+;k0:1- | habits 1 k0:1+;k0:1-", "all 0 0 = 6 | all 1 0 = 3");
        edge("TRIES of two with two", STILL, "person 0 300 300 | person 0 300 300 | dial 1 0 0 | dial 1 0 0",
            "habits 0 k0:0+;k0:0-;k0:1+;k0:1- | habits 1 k0:0+;k0:0-;k0:1+;k0:1-", "all 0 0 = 6 | all 1 0 = 6");
        edge("behind the TRIES the next part is done", STILL, "person 0 300 300 | dial 1 0 0 | dial 4 0 0 | habits 0 k0:0+;k0:0-;k0:1+;k0:1-",
            "number 2 0 = 1 | number 2 1 = 0 | number 3 1 = 1 | number 4 1 = 0 | all 0 0 = 40");
        edge("each DAY has its own TRIES", one, "person 1 0 0 | harm 0 1 = 0 | harm 1 0 = 0 | worth 0 = 15 | all 0 0 = 3 | cell 5 0 1",
            "all 0 0 = 3");
        edge("other KINDS have no TRIES", STILL, "set 5 1 | person 0 300 300 | dial 4 0 0 | habits 0 k0:0+;k0:0- | all 0 0 = 40");
    }

    private static void fits(String span, String warmth, String part, int acts) {
        edge(part + " of one who likes " + span + " at " + warmth, STILL,
            "person 0 " + span + " | cell 0 0 " + warmth + " | dial 4 23 0 | habits 0 " + part + " | all 0 0 = " + acts);
    }

    private static void whatFits() {
        promise = 15;
        fits("205 210", "200", "k5:0+", 1);
        fits("205 210", "200", "k6:0+", 0);
        fits("205 210", "200", "k4:0+", 1);
        fits("205 210", "204", "k0:0+", 1);
        fits("205 210", "205", "k0:0+", 0);
        fits("205 210", "210", "w0:0+", 0);
        fits("205 210", "211", "w0:0+", 1);
        fits("205 210", "215", "w5:0+", 1);
        fits("205 210", "215", "w6:0+", 0);
        fits("205 210", "100", "w0:0+", 0);
        fits("205 210", "300", "k0:0+", 0);
        fits("205 210", "207", "k0:0+;w0:0+", 0);
        fits("400 400", "0", "k400:0+", 1);
        fits("400 400", "0", "k401:0+", 0);
        fits("400 400", "0", "k999:0+", 0);
        fits("0 0", "400", "w400:0+", 1);
        fits("0 0", "400", "w401:0+", 0);
        fits("205 210", "195", "k010:0+", 1);
        fits("205 210", "195", "k011:0+", 0);
        fits("205 210", "195", "k000:0+", 1);
        String hot = STILL + " | person 0 0 0 | cell 0 0 400 | " + often("dial 3 0 1", 7) + " | dial 4 23 0 | ";
        edge("WARM by 600", hot + "habits 0 w600:7+", "did 1 0 0 = 0 | did 2 0 0 = 1 | all 0 0 = 1");
        edge("WARM by 601 is nobody", hot + "habits 0 w601:7+", "all 0 0 = 0");
        edge("no such DIAL", STILL, "person 0 300 300 | dial 4 0 0 | habits 0 k0:1+ | all 0 0 = 0");
        edge("no DIALS", STILL, "person 0 300 300 | habits 0 k0:0+;k0:7- | all 0 0 = 0");
        edge("no such DIAL, and the next part", STILL, "person 0 300 300 | dial 4 0 0 | habits 0 k0:1+;k0:0+ | all 0 0 = 1");
        edge("by WARMTH at the beginning of a STEP", STILL, "person 0 215 400 | dial 3 0 0 | habits 0 k0:0+;k0:0- | all 0 0 = 1",
            "number 39 0 = 1");
    }

    private static void points() {
        promise = 15;
        int[][] spans = {{200, 400, 100}, {201, 400, 98}, {249, 400, 2}, {250, 400, 0}, {251, 400, 0}, {400, 400, 0},
            {0, 200, 100}, {0, 199, 98}, {0, 151, 2}, {0, 150, 0}, {0, 149, 0}, {0, 0, 0}, {200, 200, 100}};
        for (int[] span : spans) {
            edge("POINTS at 200 of one who likes " + span[0] + " to " + span[1], STILL, "person 0 " + span[0] + " " + span[1],
                "did 0 0 1 = " + span[2] + " | did 39 0 1 = " + span[2] + " | all 0 1 = " + 40 * span[2]);
        }
        edge("POINTS by WARMTH behind the STEP", STILL, "person 0 215 400 | dial 3 0 1 | did 0 0 1 = 100");
        edge("0 at least, and TOUCH", STILL, "person 0 300 300 | dial 1 0 0 | habits 0 k0:0+ | did 0 0 1 = 5 | did 1 0 1 = 0",
            "all 0 1 = 5");
        edge("100, and TOUCH", STILL, "person 0 215 400 | dial 3 0 0 | habits 0 k0:0+ | did 0 0 1 = 105 | did 1 0 1 = 100");
        edge("whether one ACTED is 1 or 0", STILL, "person 0 215 400 | dial 3 0 0 | habits 0 k0:0+ | did 0 0 0 = 1 | did 1 0 0 = 0");
        edge("nobody", "did 0 0 0 = BAD | did 0 0 1 = BAD");
        edge("six PERSONS", STILL, often("person 0 0 400", 6), each("did 39 # 1 = 100", 0, 5), "did 0 6 1 = BAD");
        promise = 16;
        edge("nobody", "all 0 0 = BAD | all 0 1 = BAD");
        edge("six PERSONS", STILL, each("person # 20# 400", 0, 5), "all 0 1 = 4000 | all 1 1 = 3920 | all 5 1 = 3600 | all 5 0 = 0",
            "all 6 0 = BAD");
        edge("in all STEPS", STILL, "set 4 20 | set 5 60 | person 0 201 201 | dial 1 0 0 | habits 0 k0:0+;k0:0- | all 0 0 = 40",
            "all 0 1 = 4720");
        edge("the least that there can be", STILL, "person 0 400 400 | all 0 0 = 0 | all 0 1 = 0");
    }

    private static void costs() {
        promise = 17;
        edge("nobody, nothing", "run 0 = 0 | run 1 = 0");
        edge("a HEATER", STILL, "dial 3 0 1 | run 0 = 80");
        edge("a HEATER that is off", STILL, "dial 3 0 0 | run 0 = 0");
        edge("a FAN", STILL, "dial 2 0 1 | run 0 = 40");
        edge("a FAN that is off", STILL, "dial 2 0 0 | run 0 = 0");
        edge("FALSE, SHUT, WINDOW", STILL, "dial 1 0 1 | dial 4 1 1 | dial 5 2 1 | run 0 = 0");
        edge("a REAL one at its number", STILL, "dial 0 0 200 | run 0 = 0");
        edge("a REAL one below its number", STILL, "dial 0 0 201 | tune 0 1 128 | run 0 = 40");
        edge("a REAL one above its number", STILL, "dial 0 0 199 | tune 0 1 128 | run 0 = 40");
        edge("a REAL one with all GRILLES", STILL, "set 3 0 | dial 0 0 300 | tune 0 1 16777215 | run 0 = 960");
        edge("the most that there can be", STILL, "set 3 0", often("dial 0 0 300", 8), each("tune # 1 16777215", 0, 7), "run 0 = 7680");
        edge("GRILLES that are shut cost too", STILL, "set 3 0 | dial 0 0 300 | dial 4 0 1 | run 0 = 240");
        edge("by numbers behind the acts", STILL, "person 0 300 300 | dial 3 23 0 | habits 0 k0:0+ | run 0 = 80");
        edge("until the number is reached", STILL, "dial 0 0 220 | run 0 = 12");
        edge("POINTS of six", often("person 0 0 400", 6), "run 1 = 24000");
    }

    // ---- harm, fights

    private static void harmsAndFights() {
        harms();
        fights();
        leadings();
        rings();
    }

    private static void harms() {
        promise = 18;
        String heated = STILL + " | person 0 300 300 | person 0 200 205 | dial 3 0 0";
        edge("without HABITS", heated, "harm 0 1 = 0 | harm 1 0 = 0");
        edge("with a FAULT", heated, "habits 0 k0:0+; | harm 0 1 = 0");
        // 215, 230, 245, then nothing is left of 4000.
        edge("all that there is", heated, "habits 0 k0:0+ | harm 0 1 = 3850 | harm 1 0 = 0");
        edge("below 0: it is of use", STILL, "person 0 300 300 | person 0 215 400 | dial 3 0 0 | habits 0 k86:0+;k0:0-",
            "did 0 0 0 = 1 | harm 0 1 = -1200");
        edge("to itself", heated, "harm 0 0 = BAD | harm 1 1 = BAD");
        edge("one alone", "person 0 0 0 | harm 0 0 = BAD | harm 0 1 = BAD | harm 1 0 = BAD");
        edge("nobody", "harm 0 1 = BAD | harm 0 0 = BAD");
        edge("the last of six", STILL, often("person 0 200 205", 5), "person 0 300 300 | dial 3 0 0 | habits 5 k0:0+",
            each("harm 5 # = 3850", 0, 4), each("harm # 5 = 0", 0, 4), "harm 5 5 = BAD | harm 5 6 = BAD | harm 6 5 = BAD");
    }

    private static void fights() {
        promise = 19;
        edge("a DIAL with itself", "dial 2 0 1 | dial 2 0 1 | fight 0 0 = BAD | fight 1 1 = BAD | fight 0 1 = 0");
        edge("no such DIAL", "fight 0 1 = BAD | fight 0 0 = BAD | dial 2 0 1 | fight 0 1 = BAD | fight 1 0 = BAD");
        edge("in all STEPS", STILL, "dial 3 0 1 | dial 2 0 1 | fight 0 1 = 40 | fight 1 0 = 40");
        edge("in no STEP", STILL, "dial 3 0 1 | dial 2 5 1 | fight 0 1 = 0 | fight 1 0 = 0");
        edge("the eighth", STILL, "dial 3 0 1", often("dial 1 0 1", 6), "dial 2 0 1 | fight 0 7 = 40 | fight 7 0 = 40 | fight 0 8 = BAD",
            "fight 8 0 = BAD");
        edge("one that is off", STILL, "dial 3 0 0 | dial 2 0 1 | fight 0 1 = 0 | tune 0 2 1 | tune 1 2 0 | fight 0 1 = 0");
        edge("in the last STEP alone", STILL, "person 1 0 389 | dial 2 0 1 | dial 3 0 0 | cell 1 0 0 | habits 0 w1:1+",
            "number 38 1 = 0 | number 39 1 = 1 | fight 0 1 = 1 | fight 1 0 = 1");
        edge("in the first STEP alone", STILL, "person 1 300 300 | dial 2 0 1 | dial 3 0 1 | dial 1 0 0 | habits 0 k0:2+;k0:1-",
            "number 0 1 = 1 | number 1 1 = 0 | fight 0 1 = 1");
        edge("OUT 4 colder: a WINDOW takes nothing yet", STILL, "dial 5 0 1 | dial 3 0 1 | set 0 196 | fight 0 1 = 39");
        edge("OUT 5 colder: a WINDOW takes 1", STILL, "dial 5 0 1 | dial 3 0 1 | set 0 195 | fight 0 1 = 40");
        edge("OUT 4 warmer: a WINDOW gives nothing yet", STILL, "dial 5 0 1 | dial 2 0 1 | set 0 204 | fight 0 1 = 39");
        edge("OUT 5 warmer: a WINDOW gives 1", STILL, "dial 5 0 1 | dial 2 0 1 | set 0 205 | fight 0 1 = 40");
        edge("OUT warmer: a WINDOW and a HEATER both give", STILL, "dial 5 0 1 | dial 3 0 1 | set 0 205 | fight 0 1 = 39");
        String real = STILL + " | set 3 1 | dial 0 0 300 | tune 0 0 23 | dial 2 0 1 | dial 4 0 0";
        edge("POWER 1 is enough", real, "fight 0 1 = 40 | fight 1 0 = 40");
        edge("half of POWER 1 is not", real, "tune 2 2 1 | tune 0 1 1 | fight 0 1 = 0");
        edge("half of POWER 2 is enough", real, "tune 2 2 1 | set 3 2 | tune 0 1 1 | fight 0 1 = 40 | fight 1 0 = 40");
        edge("half of POWER 2 is taken", real, "tune 2 2 1 | set 3 2 | tune 0 1 1 | tune 0 2 100 | dial 3 0 1 | fight 0 3 = 40",
            "fight 3 0 = 40");
        edge("POWER 0 is not", real, "set 3 0 | fight 0 1 = 0");
        edge("a REAL one at its number", real, "tune 0 2 200 | fight 0 1 = 0");
        edge("a REAL one takes where a FAN gives", real, "tune 0 2 100 | tune 0 1 2 | fight 0 1 = 40");
        edge("one CELL is enough", STILL, "dial 0 0 300 | dial 0 23 100 | tune 0 1 8388609 | tune 1 1 8388610 | tune 0 0 12 | tune 1 0 12",
            "fight 0 1 = 40");
        edge("two that give to one CELL", STILL, "dial 0 0 300 | dial 3 0 1 | tune 0 0 12 | fight 0 1 = 0");
        edge("FANS at a row's end", STILL, "dial 2 4 1 | dial 2 5 1 | fight 0 1 = 40");
        edge("FANS in two rows", STILL, "dial 2 5 1 | dial 2 6 1 | fight 0 1 = 0");
        edge("SHUT and FALSE fight nobody", STILL, "dial 4 0 1 | dial 1 0 1 | dial 2 0 1 | fight 0 2 = 0 | fight 1 2 = 0 | fight 0 1 = 0");
    }

    private static void leadings() {
        promise = 20;
        String both = STILL + " | person 0 300 300 | person 0 300 300 | dial 4 0 0 | habits 0 k0:0+";
        edge("as often as without: no", both, "leads 0 1 = 0 | leads 1 0 = 0");
        edge("once less", both, "habits 1 k0:0+ | all 1 0 = 0 | leads 0 1 = 1 | leads 1 0 = 0");
        edge("40 times more", both, "habits 1 k0:0- | all 1 0 = 40 | leads 0 1 = 1 | leads 1 0 = 1");
        edge("with a FAULT nobody is led", both, "habits 1 k0:0-; | leads 0 1 = 0 | leads 1 0 = 0");
        edge("once more", STILL, "person 0 300 300 | person 1 200 214 | dial 2 0 0 | dial 4 5 0 | habits 0 k0:0+ | habits 1 w0:1+",
            "did 2 1 0 = 1 | all 1 0 = 1 | leads 0 1 = 1 | leads 1 0 = 0");
        edge("in another STEP but as often: no", STILL, "person 0 300 300 | person 1 0 300 | dial 2 0 0 | dial 3 1 1 | dial 4 23 0 | habits 0 k0:0+ | habits 1 w0:2+",
            "did 5 1 0 = 1 | all 1 0 = 1 | leads 0 1 = 0 | wipe 0 | did 5 1 0 = 0 | did 7 1 0 = 1 | all 1 0 = 1");
        edge("itself", both, "leads 0 0 = BAD | leads 1 1 = BAD");
        edge("nobody", "leads 0 0 = BAD | leads 0 1 = BAD");
        edge("the last of six", STILL, often("person 0 300 300", 6), "dial 4 0 0 | habits 0 k0:0+ | habits 5 k0:0-",
            "leads 0 5 = 1 | leads 5 0 = 1 | leads 0 4 = 0 | leads 5 4 = 0 | leads 5 6 = BAD | leads 6 5 = BAD | leads 5 5 = BAD");
    }

    private static void rings() {
        promise = 21;
        edge("nobody", "ring = 0");
        edge("one alone", STILL, "person 0 300 300 | dial 4 0 0 | habits 0 k0:0+;k0:0- | ring = 0");
        edge("two that lead one another", STILL, often("person 0 300 300", 2), "dial 4 0 0 | habits 0 k0:0+ | habits 1 k0:0- | ring = 3");
        edge("one that leads the other", STILL, often("person 0 300 300", 2), "dial 4 0 0 | habits 0 k0:0+ | habits 1 k0:0+",
            "leads 0 1 = 1 | ring = 0");
        edge("the first and the last of six", STILL, often("person 0 300 300", 6), "dial 4 0 0 | habits 0 k0:0+ | habits 5 k0:0-",
            "ring = 33");
        edge("all six", STILL, often("person 0 300 300", 6), often("dial 4 0 0", 3), "habits 0 k0:0+ | habits 1 k0:0- | habits 2 k0:1+",
            "habits 3 k0:1- | habits 4 k0:2+ | habits 5 k0:2- | ring = 63");
        // The first one acts once, as often as without the second, who acts in each STEP; the third turns it on again.
        edge("three, each leading the next one alone", STILL, often("person 0 300 300", 3), "dial 4 0 0 | habits 0 k0:0+ | habits 1 k0:0- | habits 2 k0:0+",
            "leads 0 1 = 1 | leads 1 2 = 1 | leads 2 0 = 1 | leads 1 0 = 0 | leads 2 1 = 0 | leads 0 2 = 0 | ring = 7");
        edge("one that is led by a ring is not in it", STILL, "person 0 300 300 | person 0 300 300 | person 1 200 214 | dial 4 0 0 | dial 2 0 0 | dial 4 5 0",
            "habits 0 k0:0+ | habits 1 k0:0-;k0:1+ | habits 2 w0:2+ | leads 0 1 = 1 | leads 1 0 = 1 | leads 0 2 = 1 | leads 2 0 = 0",
            "leads 2 1 = 0 | ring = 3");
        edge("one that leads into a ring is not in it", STILL, "person 0 300 300 | person 1 300 300 | person 23 300 300 | dial 4 12 0 | dial 3 0 0",
            "habits 0 k0:0+ | habits 1 k0:0- | habits 2 k0:1+ | all 0 0 = 7 | leads 2 0 = 1 | leads 2 1 = 1 | leads 0 2 = 0",
            "leads 1 2 = 0 | ring = 3");
    }

    // ---- the best

    private static void theBest() {
        bestSettings();
        bestSeats();
        feels();
        worths();
    }

    private static void bestSettings() {
        promise = 22;
        edge("no DIALS", "best 0 0 = NOT | best 9999 1 = NOT | best 9999 2 = NOT");
        edge("no REAL one", each("dial # 0 0", 1, 5), "best 0 0 = NOT | best 9999 2 = NOT");
        String one = STILL + " | dial 0 0 300 | tune 0 1 1 | ";
        // 20 + 40 + 60 + 80, then 100 each.
        edge("250 is the greatest", one + "person 0 250 400", "best 9999 0 = 250 | best 9999 1 = NONE | best 9999 2 = 3800");
        edge("250, though 260 were better", one + "person 0 290 400", "best 9999 0 = 250 | best 9999 2 = 720");
        edge("180 is the least", one + "person 0 0 180", "best 9999 0 = 180 | best 9999 2 = 3980");
        edge("180, though 170 were better", one + "person 0 0 170", "best 9999 0 = 180 | best 9999 2 = 3180");
        edge("it costs as much as told", one + "person 0 250 400", "best 5 0 = 250 | best 5 2 = 3800");
        edge("it costs 1 more than told", one + "person 0 250 400", "best 4 0 = 240 | best 4 2 = 3080");
        edge("nothing is told", one + "person 0 250 400", "best 0 0 = 200 | best 0 2 = 0");
        String dear = one + "dial 3 23 1 | person 0 200 200";
        edge("none is so cheap", dear, "best 79 0 = NONE | best 79 1 = NONE | best 79 2 = NONE | best 0 0 = NONE");
        edge("one is so cheap", dear, "best 80 0 = 200 | best 80 1 = NONE | best 80 2 = 4000");
        edge("nobody: the least", one + "dial 0 5 300", "best 9999 0 = 180 | best 9999 1 = 180 | best 9999 2 = 0");
        edge("its number is as before", one + "person 0 250 400", "best 9999 0 = 250 | number 0 0 = 300 | tune 0 2 200 = 300");
        String two = STILL + " | dial 1 0 0 | dial 0 0 300 | dial 3 23 0 | dial 0 5 300 | tune 1 1 1 | tune 3 1 32 | ";
        edge("two, with other DIALS between", two + "person 0 210 210 | person 5 250 400", "best 9999 0 = 210 | best 9999 1 = 250",
            "best 9999 2 = 7800");
        edge("of like ones the least second number", two + "person 0 210 210", "best 9999 0 = 210 | best 9999 1 = 180");
        edge("of like ones the least first number", two + "person 5 210 210", "best 9999 0 = 180 | best 9999 1 = 210");
        edge("a purse for one of two", two + "person 0 210 210 | person 5 210 210", "best 1 0 = 200 | best 1 1 = 210 | best 2 0 = 210",
            "best 2 1 = 210");
        edge("both at the greatest", two + "person 0 250 400 | person 5 250 400", "best 10 0 = 250 | best 10 1 = 250 | best 10 2 = 7600");
        edge("a third one is as it is", two + "dial 0 11 300 | tune 4 1 2048 | person 11 250 400", "best 9999 0 = 180 | best 9999 1 = 180 | best 9999 2 = 3800",
            "best 9 0 = NONE | best 10 0 = 200");
    }

    private static void bestSeats() {
        promise = 23;
        edge("nobody", "seats NONE = 0 | seats 0 = BAD");
        edge("one alone", STILL, "person 5 201 201 | seats NONE = 3920 | seats 0 = 0 | seats 1 = BAD");
        String row = STILL + " | row 0 2 210 220 230 240 250 | read 0 0 | ";
        edge("five, each in another's SEAT", row + "person 0 250 250 | person 1 240 240 | person 2 230 230 | person 3 220 220 | person 4 210 210",
            "run 1 = 10400 | seats NONE = 20000 | seats 0 = 4 | seats 1 = 3 | seats 2 = 2 | seats 3 = 1 | seats 4 = 0 | seats 5 = BAD");
        edge("five that are like", row + each("person # 0 400", 0, 4), each("seats # = #", 0, 4), "seats NONE = 20000");
        edge("the first and the last change", row + "person 0 250 250 | person 1 0 400 | person 2 0 400 | person 3 0 400 | person 4 210 210",
            "seats 0 = 4 | seats 1 = 1 | seats 2 = 2 | seats 3 = 3 | seats 4 = 0");
        edge("of like ones the least PERSON in the first SEAT", row + "person 0 0 400 | person 1 210 210 | person 2 220 220 | person 0 210 210",
            "seats 0 = 1 | seats 1 = 2 | seats 2 = 0 | seats 3 = 3 | seats NONE = 16000");
        edge("in one SEAT", STILL, each("person 7 0 20#", 0, 4), each("seats # = #", 0, 4), "seats NONE = 20000");
        edge("six: FULL", often("person 0 0 400", 6), "seats NONE = FULL | seats 0 = FULL | seats 5 = FULL");
        edge("six: BAD first", often("person 0 0 400", 6), "seats 6 = BAD | seats -2 = BAD | seats MIN = BAD | seats MAX = BAD");
        edge("they sit as before", row + "person 0 220 220 | person 1 210 210", "seats 0 = 1 | seat 0 0 = 0 | seat 1 1 = 1");
    }

    private static void feels() {
        promise = 24;
        edge("the last CELL", STILL, "dial 0 0 250 | tune 0 1 1 | person 0 200 200 | cell 23 0 250 | feel 0 = 23");
        edge("the first CELL", STILL, "dial 0 5 250 | tune 0 1 1 | person 0 200 200 | cell 0 0 250 | cell 23 0 250 | feel 0 = 0");
        edge("of like ones the least", STILL, "dial 0 5 250 | tune 0 1 1 | person 0 200 200 | cell 7 0 250 | cell 8 0 250 | feel 0 = 7");
        edge("nobody: the least", STILL, "dial 0 5 250 | feel 0 = 0");
        // CELL 0 has 200, then 215 for good: whoever felt it a STEP early, as a CELL 24 in one row with it would, never gave at all.
        edge("there is no CELL behind the last one", STILL, "person 0 300 300 | person 12 200 200 | dial 3 0 0 | dial 0 5 215 | tune 1 1 4096",
            "habits 0 k86:0+;k0:0- | warmth 1 0 0 = 215 | warmth 40 0 0 = 215 | feel 1 = 0");
        edge("no DIALS", "feel 0 = BAD");
        for (int kind = 1; kind <= 5; kind++) {
            edge("KIND " + kind + " has no FEELER", "dial " + kind + " 0 0 | feel 0 = BAD");
        }
        edge("the eighth", STILL, often("dial 1 0 0", 7), "dial 0 5 250 | tune 7 1 1 | person 0 200 200 | cell 22 0 250 | feel 7 = 22",
            "feel 8 = BAD");
        edge("the FEELER is as before", STILL, "dial 0 5 250 | feel 0 = 0 | tune 0 0 1 = 5");
    }

    private static void worths() {
        promise = 25;
        edge("no DIALS", "worth 0 = BAD");
        edge("nobody", "dial 3 0 1 | worth 0 = 0");
        edge("a DIAL that is off", STILL, "person 0 215 400 | dial 3 0 0 | worth 0 = 0");
        edge("a FALSE one that nobody presses", STILL, "person 0 215 400 | dial 1 0 1 | worth 0 = 0");
        edge("a FALSE one is worth its TRIES", STILL, "person 0 215 400 | dial 1 0 0 | habits 0 k0:0+;k0:0- | worth 0 = 15 | set 4 20",
            "set 5 60 | worth 0 = 800");
        edge("below 0", STILL, "person 0 200 200 | dial 3 0 1 | worth 0 = -3880");
        edge("the eighth", STILL, "person 0 210 210", often("dial 1 0 0", 7), "dial 0 0 210 | tune 7 1 1 | worth 7 = 800 | worth 6 = 0",
            "worth 8 = BAD");
        edge("without it the next part is done", STILL, "person 0 300 300 | dial 1 0 0 | dial 1 0 0 | set 5 1 | habits 0 k0:0+;k0:1+",
            "worth 0 = 5 | worth 1 = 5");
        edge("without a SHUT all of POWER is given", STILL, "person 6 0 209 | dial 4 6 1 | dial 0 8 210 | worth 0 = 80");
        edge("it is as before", STILL, "person 0 215 400 | dial 3 0 1 | worth 0 | number 39 0 = 1 | warmth 1 0 0 = 215");
    }

    // ---- votes, beginnings, spans

    private static void votesBeginningsSpans() {
        votes();
        votesRefused();
        gains();
        mondays();
        spans();
        spansRefused();
    }

    private static void vote(String presses, int bySum, int byMiddle) {
        int n = presses.split(" ").length;
        edge("presses " + presses, often("person 0 0 400", n), "dial 0 0 200 | row 0 0 " + presses,
            "vote 0 0 0 = " + bySum + " | vote 0 0 1 = " + byMiddle);
    }

    private static void votes() {
        promise = 26;
        vote("0", 200, 200);
        vote("1", 210, 210);
        vote("-1", 190, 190);
        vote("-1 1", 200, 190);
        vote("1 -1", 200, 190);
        vote("0 1", 210, 200);
        vote("1 0", 210, 200);
        vote("-1 0", 190, 190);
        vote("1 1", 210, 210);
        vote("-1 0 1", 200, 200);
        vote("1 1 -1", 210, 210);
        vote("1 -1 -1", 190, 190);
        vote("1 0 0", 210, 200);
        vote("1 1 1", 210, 210);
        vote("1 1 -1 -1", 200, 190);
        vote("1 1 0 -1", 210, 200);
        vote("1 1 1 0", 210, 210);
        vote("1 1 1 -1 -1 -1", 200, 190);
        vote("1 1 1 0 -1 -1", 210, 200);
        vote("1 1 1 1 -1 -1", 210, 210);
        vote("1 1 1 1 1 1", 210, 210);
        vote("-1 -1 -1 -1 -1 -1", 190, 190);
        vote("0 0 0 -1 -1 -1", 190, 190);
        edge("nobody presses", "dial 0 0 200 | sheet 0 0 0 | vote 0 0 0 = 200 | vote 0 0 1 = 200");
        String one = "person 0 0 400 | dial 0 0 ";
        edge("290 becomes 300", one + "290 | row 0 0 1 | vote 0 0 0 = 300 | vote 0 0 1 = 300");
        edge("291 is as it is", one + "291 | row 0 0 1 | vote 0 0 0 = 291 | vote 0 0 1 = 291");
        edge("300 is as it is", one + "300 | row 0 0 1 | vote 0 0 0 = 300 | vote 0 0 1 = 300");
        edge("110 becomes 100", one + "110 | row 0 0 -1 | vote 0 0 0 = 100 | vote 0 0 1 = 100");
        edge("109 is as it is", one + "109 | row 0 0 -1 | vote 0 0 0 = 109 | vote 0 0 1 = 109");
        edge("100 is as it is", one + "100 | row 0 0 -1 | vote 0 0 0 = 100 | vote 0 0 1 = 100");
        edge("it is told, not done", one + "200 | row 0 0 1 | vote 0 0 0 = 210 | vote 0 0 0 = 210 | number 0 0 = 200 | tune 0 2 200 = 200");
        edge("a byte of 255 is -1", one + "200 | row 0 0 255 | vote 0 0 0 = 190");
        edge("a short of 65535 is -1", one + "200 | row 0 1 65535 | vote 0 0 0 = 190");
        edge("an int of 1", one + "200 | row 3 2 1 | vote 3 0 0 = 210");
        edge("what stood behind the items is not pressed", "person 0 0 400 | person 0 0 400 | dial 0 0 200 | row 0 2 7 7 7 7 | row 0 2 0 1 | vote 0 0 0 = 210 | vote 0 0 1 = 200",
            "row 1 2 -1 -1 -1 -1 | row 1 2 0 0 | vote 1 0 0 = 200 | vote 1 0 1 = 200");
        edge("the eighth DIAL", "person 0 0 400", often("dial 1 0 0", 7), "dial 0 0 150 | row 0 0 1 | vote 0 7 0 = 160 | vote 0 8 0 = BAD",
            "vote 0 6 0 = BAD");
    }

    private static void votesRefused() {
        promise = 26;
        String two = "person 0 0 400 | person 0 0 400 | dial 0 0 200 | ";
        edge("no items for two", two + "sheet 0 0 0 | vote 0 0 0 = NOT");
        edge("one item for two", two + "row 0 0 1 | vote 0 0 0 = NOT | vote 0 0 1 = NOT");
        edge("two items for two", two + "row 0 0 1 1 | vote 0 0 0 = 210");
        edge("three items for two", two + "row 0 0 1 1 1 | vote 0 0 0 = NOT | vote 0 0 1 = NOT");
        edge("60 items for two", two + "sheet 0 0 60 | vote 0 0 0 = NOT");
        edge("one item for nobody", "dial 0 0 200 | row 0 0 0 | vote 0 0 0 = NOT");
        edge("2 is no press", two + "row 0 0 0 2 | vote 0 0 0 = NOT | vote 0 0 1 = NOT");
        edge("-2 is no press", two + "row 0 0 -2 0 | vote 0 0 0 = NOT | vote 0 0 1 = NOT");
        edge("the least int is no press", two + "row 0 2 MIN 0 | vote 0 0 0 = NOT");
        edge("the greatest int is no press", two + "row 0 2 0 MAX | vote 0 0 0 = NOT");
        edge("NOT is no FINDING", two + "row 0 0 0 2 | vote 0 0 0 = NOT | count 8 = 0");
        edge("LOST", two + "vote 0 0 0 = NULL | count 8 = 1");
        for (int kind = 1; kind <= 5; kind++) {
            edge("KIND " + kind + " has no number to vote for", "person 0 0 400 | dial " + kind + " 0 0 | row 0 0 1 | vote 0 0 0 = BAD",
            "gain 0 0 0 0 = BAD");
        }
    }

    private static void gains() {
        promise = 27;
        String one = STILL + " | person 0 210 400 | dial 0 0 200 | tune 0 1 1 | ";
        edge("it could have more", one + "row 0 0 0 | gain 0 0 0 0 = 800 | gain 0 0 1 0 = 800");
        edge("from the other end", one + "row 0 0 -1 | gain 0 0 0 0 = 1600");
        edge("it has the most already", one + "row 0 0 1 | gain 0 0 0 0 = 0 | gain 0 0 1 0 = 0");
        edge("0 at least", STILL, "person 0 200 200 | dial 0 0 200 | tune 0 1 1 | row 0 0 0 | gain 0 0 0 0 = 0");
        edge("more than 300 cannot be", STILL, "cell 0 0 300 | person 0 310 310 | dial 0 0 300 | tune 0 1 1 | row 0 0 0",
            "gain 0 0 0 0 = 0");
        edge("291 cannot become 301", STILL, "cell 0 0 291 | person 0 301 301 | dial 0 0 291 | tune 0 1 1 | row 0 0 0 | gain 0 0 0 0 = 0");
        edge("290 can become 300", STILL, "cell 0 0 290 | person 0 300 300 | dial 0 0 290 | tune 0 1 1 | row 0 0 0 | gain 0 0 0 0 = 800");
        edge("less than 100 cannot be", STILL, "cell 0 0 100 | person 0 90 90 | dial 0 0 100 | tune 0 1 1 | row 0 0 0 | gain 0 0 0 0 = 0");
        edge("109 cannot become 99", STILL, "cell 0 0 109 | person 0 99 99 | dial 0 0 109 | tune 0 1 1 | row 0 0 0 | gain 0 0 0 0 = 0");
        edge("110 can become 100", STILL, "cell 0 0 110 | person 0 100 100 | dial 0 0 110 | tune 0 1 1 | row 0 0 0 | gain 0 0 0 0 = 800");
        String six = STILL + " | " + often("person 0 210 400", 6) + " | dial 0 0 200 | tune 0 1 1 | ";
        edge("one of six can turn the sum", six + "row 0 0 1 1 0 0 -1 -1 | gain 0 0 0 5 = 800 | gain 0 0 0 0 = 0 | gain 0 0 0 2 = 800");
        edge("one of six cannot turn the sum", six + "row 0 0 -1 -1 -1 1 0 0 | gain 0 0 0 4 = 0 | gain 0 0 0 5 = 0 | gain 0 0 0 6 = BAD");
        edge("one of six can turn the middle one", six + "row 0 0 1 1 1 0 -1 0 | gain 0 0 1 5 = 800 | gain 0 0 1 3 = 800",
            "gain 0 0 1 0 = 0");
        edge("others stay as they did", six + "row 0 0 0 0 0 0 0 0 | gain 0 0 0 3 = 800 | get 0 0 3 = 0 | vote 0 0 0 = 200",
            "number 0 0 = 200");
        edge("nobody", "dial 0 0 200 | sheet 0 0 0 | gain 0 0 0 0 = BAD | gain 0 0 0 NONE = BAD");
        edge("no items", one + "sheet 0 0 0 | gain 0 0 0 0 = NOT");
        edge("one item too many", one + "row 0 0 0 0 | gain 0 0 0 0 = NOT");
        edge("2 is no press", one + "row 0 0 2 | gain 0 0 0 0 = NOT | gain 0 0 1 0 = NOT");
        edge("-2 is no press, though it could press otherwise", one + "row 0 0 -2 | gain 0 0 0 0 = NOT");
        edge("LOST", one + "gain 0 0 0 0 = NULL | count 8 = 1");
    }

    private static void mondays() {
        promise = 28;
        String real = STILL + " | dial 0 0 250 | ";
        edge("STEP 1, and it is so already", real + "monday 0 0 200 1 = 1");
        edge("STEP 1, and it takes one STEP", real + "monday 0 0 201 1 = 0 | monday 0 0 210 1 = 0");
        edge("STEP 1, and it takes two STEPS", real + "monday 0 0 211 1 = NONE");
        edge("STEP 40, and it is so already", real + "monday 0 0 200 40 = 40");
        edge("STEP 40, and it takes five STEPS", real + "monday 0 0 250 40 = 35 | monday 0 0 241 40 = 35");
        edge("STEP 40, and it takes four STEPS", real + "monday 0 0 240 40 = 36");
        edge("from STEP 0 on, and in time", real + "monday 0 0 250 5 = 0");
        edge("from STEP 0 on, and too late", real + "monday 0 0 250 4 = NONE");
        edge("1 more than it can be", real + "monday 0 0 251 40 = NONE");
        edge("40 STEPS from 0 on", STILL, "dial 0 0 300 | set 3 2 | monday 0 0 280 40 = 0 | monday 0 0 281 40 = NONE");
        edge("WARMTH 0", STILL, "dial 0 0 100 | sheet 0 0 24 | read 0 0 | monday 0 23 0 40 = 40");
        edge("WARMTH 600", STILL, "dial 0 6 100", often("dial 3 0 1", 7), "monday 0 0 600 40 = 40 | monday 0 0 600 4 = 4",
            "monday 0 0 600 3 = NONE");
        edge("what cools had best begin at t", STILL, "dial 0 0 100 | tune 0 1 1 | monday 0 0 200 3 = 3 | monday 0 0 199 3 = 3");
        // The FEELER has 200, 215, .. 290, 305 at STEP 7: before it gives, then it takes.
        edge("the last STEP, where a later one is too late", STILL, "dial 0 0 300 | tune 0 0 1 | tune 0 1 1 | dial 3 1 1",
            "monday 0 0 220 7 = 5 | monday 0 0 220 8 = 4");
        edge("nobody does anything", real + "person 0 300 300 | habits 0 k0:0+ | monday 0 0 251 40 = NONE | all 0 0 = 5");
        edge("nobody of six does anything", real + often("person 0 300 300", 6) + " | " + each("habits # k0:0+", 0, 5) + "",
            "monday 0 0 251 40 = NONE | all 0 0 = 1");
        edge("other DIALS do what they do", real + "dial 2 0 1 | monday 0 1 240 40 = 40 | monday 0 1 240 4 = 4 | monday 0 1 240 3 = 2");
        edge("no DIALS", "monday 0 0 0 1 = BAD");
        for (int kind = 1; kind <= 5; kind++) {
            edge("KIND " + kind + " cannot begin", "dial " + kind + " 0 1 | monday 0 0 0 1 = BAD");
        }
        edge("the eighth", STILL, often("dial 1 0 0", 7), "dial 0 0 250 | monday 7 0 250 40 = 35 | monday 8 0 250 40 = BAD",
            "monday 6 0 250 40 = BAD");
        edge("the DAY is as before", real + "monday 0 0 250 40 = 35 | warmth 1 0 0 = 210 | warmth 40 0 0 = 250 | run 0 = 30");
    }

    private static void span(String pairs, String... due) {
        StringBuilder calls = new StringBuilder(pairs.isEmpty() ? "sheet 0 2 0" : "row 0 2 " + pairs);
        for (int what = 0; what < 4; what++) {
            calls.append(" | span 0 ").append(what).append(" = ").append(due[Math.min(what, due.length - 1)]);
        }
        edge("pairs '" + pairs + "'", calls.toString());
    }

    private static void spans() {
        promise = 29;
        span("", "0", "400", "0", "400");
        span("0 0", "0", "0", "0", "400");
        span("400 0", "0", "400", "400", "400");
        span("0 0 400 0", "0", "0", "400", "400");
        span("0 -1", "1", "400", "1", "400");
        span("399 -1", "400", "400", "400", "400");
        span("400 -1", "NOT");
        span("400 1", "0", "399", "0", "399");
        span("1 1", "0", "0", "0", "0");
        span("0 1", "NOT");
        span("200 0", "0", "200", "200", "400");
        span("200 0 200 0", "0", "200", "200", "400");
        span("200 -1 202 1", "201", "201", "201", "201");
        span("200 -1 201 1", "NOT");
        span("201 1 200 -1", "NOT");
        span("200 -1 200 1", "NOT");
        span("200 -1 201 0 202 1", "201", "201", "201", "201");
        span("200 0 200 -1", "NOT");
        span("200 0 200 1", "NOT");
        span("200 0 201 -1", "NOT");
        span("200 0 199 1", "NOT");
        span("200 0 199 -1", "200", "200", "200", "400");
        span("200 0 201 1", "0", "200", "200", "200");
        span("190 -1 210 0 220 1", "191", "210", "210", "219");
        StringBuilder thirty = new StringBuilder("sheet 0 2 60");
        for (int i = 0; i < 30; i++) {
            thirty.append(" | lay 0 2 ").append(2 * i).append(' ').append(i == 29 ? 150 : 200);
        }
        edge("60 items, the last pair counts", thirty.toString(), "lay 0 2 59 -1 | span 0 0 = 151 | span 0 1 = 200 | span 0 2 = 200",
            "span 0 3 = 400");
        edge("60 items, the first pair counts", thirty.toString(), "lay 0 2 0 100 | lay 0 2 58 200 | span 0 0 = 0 | span 0 1 = 100",
            "span 0 2 = 200 | span 0 3 = 400");
        edge("60 items of the last SHEET", "sheet 3 2 60 | span 3 0 = 0 | span 3 1 = 0 | span 3 2 = 0 | span 3 3 = 400");
        edge("60 items, and another SHEET behind them", "sheet 0 2 60 | row 1 2 401 5 | span 0 1 = 0 | span 0 3 = 400");
        edge("what stood behind the items is no pair", "row 0 2 401 401 401 401 | row 0 2 200 0 | span 0 1 = 200 | span 0 2 = 200",
            "sheet 0 2 0 | span 0 1 = 400");
        edge("bytes", "row 0 0 127 255 | span 0 0 = 128 | span 0 3 = 400");
        edge("shorts", "row 3 1 400 65535 | span 3 0 = NOT | lay 3 1 0 399 | span 3 0 = 400");
    }

    private static void spansRefused() {
        promise = 29;
        edge("LOST", "span 0 0 = NULL | count 8 = 1");
        edge("half a pair", "row 0 2 200 | span 0 0 = NOT");
        edge("a pair and a half", "row 0 2 200 0 200 | span 0 0 = NOT | span 0 3 = NOT");
        edge("59 items", "sheet 0 2 59 | span 0 0 = NOT");
        String[] others = {"-1 0", "401 0", "MIN 0", "MAX 0", "200 -2", "200 2", "200 MIN", "200 MAX", "200 0 401 0", "200 0 200 2", "0 400"};
        for (String pair : others) {
            edge("others than told: " + pair, "row 0 2 " + pair + " | span 0 0 = NOT | span 0 1 = NOT | span 0 2 = NOT | span 0 3 = NOT",
            "count 8 = 0");
        }
        edge("a byte of 200 is below 0", "row 0 0 200 0 | span 0 0 = NOT");
        edge("a short of 32768 is below 0", "row 0 1 32768 0 | span 0 0 = NOT");
        edge("it is the SHEET that is refused, not the question", "row 0 2 200 | span 0 4 = BAD | span 0 -1 = BAD | count 8 = 0");
    }

    // ---- sheets

    private static void sheets() {
        newSheets();
        losses();
        layings();
        gettings();
        copies();
        copiesRefused();
        writes();
        counts();
        digests();
    }

    private static void newSheets() {
        promise = 30;
        for (int form = 0; form <= 2; form++) {
            String first = "sheet 0 " + form + " ";
            edge("0 items of FORM " + form, first + "0 = 0 | get 0 " + form + " 0 = MIN | count 8 = 2 | lose 0 = 0");
            edge("1 item of FORM " + form, first + "1 = 1 | get 0 " + form + " 0 = 0 | get 0 " + form + " 1 = MIN | count 8 = 2");
            edge("60 items of FORM " + form, first + "60 = 60", each("get 0 " + form + " # = 0", 0, 59), "lose 0 = 60");
            edge("61 items of FORM " + form, first + "61 = BAD | lose 0 = NULL");
            edge("-1 items of FORM " + form, first + "-1 = SIZE | count 8 = 5 | lose 0 = NULL");
            edge("the least int of FORM " + form, first + "MIN = SIZE | count 8 = 5 | lose 0 = NULL");
            edge("the greatest int of FORM " + form, first + "MAX = BAD | count 8 = 0 | lose 0 = NULL");
        }
        edge("a new row has 0 again", "row 0 2 7 8 9 | sheet 0 2 3 = 3 | get 0 2 0 = 0 | get 0 2 1 = 0 | get 0 2 2 = 0");
        edge("shorter, then longer", "row 0 2 7 8 9 | sheet 0 2 1 = 1 | get 0 2 1 = MIN | sheet 0 2 3 = 3 | get 0 2 1 = 0 | get 0 2 2 = 0");
        edge("another FORM", "row 0 2 7 | sheet 0 0 1 = 1 | get 0 2 0 = MIN | count 8 = 3 | get 0 0 0 = 0");
        edge("a refusal leaves the row", "row 0 2 7 8 | sheet 0 0 -1 = SIZE | sheet 0 0 61 = BAD | sheet 0 3 1 = BAD | get 0 2 0 = 7",
            "lose 0 = 2");
        edge("SHEETS are rows of their own", "row 0 2 1 | row 1 2 2 | row 2 2 3 | row 3 2 4 | get 0 2 0 = 1 | get 1 2 0 = 2 | get 2 2 0 = 3 | get 3 2 0 = 4",
            "sheet 1 2 60 | get 0 2 0 = 1 | get 2 2 0 = 3 | sheet 0 2 60 | lay 0 2 59 5 | get 1 2 0 = 0 | get 1 2 59 = 0");
        edge("LOST, and a new row", "row 0 2 7 | lose 0 = 1 | sheet 0 2 1 = 1 | get 0 2 0 = 0");
    }

    private static void losses() {
        promise = 31;
        edge("no items", "sheet 0 1 0 | lose 0 = 0 | lose 0 = NULL | count 8 = 1");
        edge("60 items", "sheet 3 1 60 | lose 3 = 60 | lose 3 = NULL");
        edge("all four", each("sheet # 0 #", 0, 3), each("lose # = #", 0, 3), each("lose # = NULL", 0, 3));
        edge("of one alone", "sheet 0 1 7 | sheet 1 1 9 | lose 0 = 7 | lose 1 = 9");
        edge("what is LOST has no items", "row 0 2 7 | lose 0 | get 0 2 0 = MIN | count 8 = 1 | lay 0 2 0 1 = NULL | copy 0 0 0 0 0 = NULL",
            "write 0 0 = NULL");
        edge("BAD is no FINDING", "lose 4 = BAD | lose -1 = BAD | count 8 = 0");
    }

    private static void laid(int form, String v, String kept) {
        edge(v + " in FORM " + form, "sheet 0 " + form + " 3 | lay 0 " + form + " 1 " + v + " = 1 | get 0 " + form + " 1 = " + kept,
            "get 0 " + form + " 0 = 0 | get 0 " + form + " 2 = 0");
    }

    private static void layings() {
        promise = 32;
        String[][] bytes = {{"127", "127"}, {"128", "-128"}, {"255", "-1"}, {"256", "0"}, {"257", "1"}, {"-128", "-128"}, {"-129", "127"},
            {"-256", "0"}, {"MAX", "-1"}, {"MIN", "0"}, {"32767", "-1"}, {"384", "-128"}};
        for (String[] b : bytes) {
            laid(0, b[0], b[1]);
        }
        String[][] shorts = {{"32767", "32767"}, {"32768", "-32768"}, {"65535", "-1"}, {"65536", "0"}, {"65537", "1"}, {"-32768", "-32768"},
            {"-32769", "32767"}, {"MAX", "-1"}, {"MIN", "0"}, {"128", "128"}, {"256", "256"}};
        for (String[] b : shorts) {
            laid(1, b[0], b[1]);
        }
        String[] ints = {"MAX", "2147483646", "-2147483647", "0", "-1", "65536", "256"};
        for (String v : ints) {
            laid(2, v, v);
        }
        edge("the least int in FORM 2", "sheet 0 2 1 | lay 0 2 0 MIN = 1 | get 0 2 0 = MIN | count 8 = 0");
        edge("the first and the last of 60", "sheet 0 2 60 | lay 0 2 0 1 = 1 | lay 0 2 59 2 = 1 | get 0 2 0 = 1 | get 0 2 59 = 2",
            "get 0 2 1 = 0 | get 0 2 58 = 0");
        edge("behind the last of 60", "sheet 0 2 60 | sheet 1 2 60 | lay 0 2 60 7 = INDEX | count 8 = 2 | get 1 2 0 = 0");
        edge("ahead of the first", "sheet 0 2 60 | sheet 1 2 60 | lay 1 2 -1 7 = INDEX | get 0 2 59 = 0");
        edge("the ends of ints", "sheet 0 2 60 | lay 0 2 MAX 7 = INDEX | lay 0 2 MIN 7 = INDEX");
        edge("a SHEET of 0 items", "sheet 0 2 0 | lay 0 2 0 7 = INDEX | count 8 = 2");
        edge("all FORMS that it has not", "sheet 0 0 1 | sheet 1 1 1 | sheet 2 2 1 | lay 0 1 0 7 = CAST | lay 0 2 0 7 = CAST | lay 1 0 0 7 = CAST",
            "lay 1 2 0 7 = CAST | lay 2 0 0 7 = CAST | lay 2 1 0 7 = CAST | count 8 = 3 | get 0 0 0 = 0 | get 1 1 0 = 0 | get 2 2 0 = 0");
        edge("LOST", "lay 0 0 0 7 = NULL | count 8 = 1");
    }

    private static void gettings() {
        promise = 33;
        edge("BAD is no FINDING", "get 4 0 0 = MIN | get -1 0 0 = MIN | get 0 3 0 = MIN | get 0 -1 0 = MIN | get MIN 0 0 = MIN",
            "get 0 MAX 0 = MIN | count 8 = 0");
        edge("LOST", "get 0 0 0 = MIN | count 8 = 1");
        edge("all FORMS that it has not", "sheet 0 1 3 | get 0 0 0 = MIN | count 8 = 3 | lose 1 | get 0 2 0 = MIN | count 8 = 3");
        edge("the last item, and one more", "row 0 1 5 6 7 | get 0 1 2 = 7 | count 8 = 0 | get 0 1 3 = MIN | count 8 = 2");
        edge("the first item, and one ahead", "row 0 1 5 6 7 | get 0 1 0 = 5 | count 8 = 0 | get 0 1 -1 = MIN | count 8 = 2");
        edge("the ends of ints", "row 0 1 5 | get 0 1 MAX = MIN | count 8 = 2 | lose 1 | get 0 1 MIN = MIN | count 8 = 2");
        edge("the last of 60", "sheet 0 0 60 | lay 0 0 59 9 | get 0 0 59 = 9 | get 0 0 60 = MIN | count 8 = 2");
        edge("of 0 items", "sheet 0 0 0 | get 0 0 0 = MIN | count 8 = 2");
        edge("the least int that was laid is no FINDING", "row 0 2 MIN | get 0 2 0 = MIN | count 8 = 0");
    }

    private static void copies() {
        promise = 34;
        String two = "row 0 2 1 2 3 4 5 | row 1 2 6 7 8 | ";
        edge("no items", two + "copy 0 0 1 0 0 = 1 | get 1 2 0 = 6");
        edge("no items from the end to the end", two + "copy 0 5 1 3 0 = 1 | get 1 2 2 = 8");
        edge("no items of no items", "sheet 0 2 0 | sheet 1 2 0 | copy 0 0 1 0 0 = 1");
        edge("as many as there is room for", two + "copy 0 2 1 0 3 = 1 | get 1 2 0 = 3 | get 1 2 1 = 4 | get 1 2 2 = 5");
        edge("as many as there are", two + "copy 1 0 0 2 3 = 1 | get 0 2 1 = 2 | get 0 2 2 = 6 | get 0 2 4 = 8");
        edge("the last to the first", two + "copy 0 4 1 0 1 = 1 | get 1 2 0 = 5 | get 1 2 1 = 7");
        edge("s stays", two + "copy 0 2 1 0 3 = 1 | get 0 2 2 = 3 | get 0 2 3 = 4 | get 0 2 4 = 5");
        edge("upwards in one SHEET, as they were", "row 0 0 1 2 3 4 5 | copy 0 0 0 1 4 = 1 | get 0 0 0 = 1 | get 0 0 1 = 1 | get 0 0 2 = 2",
            "get 0 0 3 = 3 | get 0 0 4 = 4");
        edge("downwards in one SHEET, as they were", "row 0 1 1 2 3 4 5 | copy 0 1 0 0 4 = 1 | get 0 1 0 = 2 | get 0 1 1 = 3",
            "get 0 1 2 = 4 | get 0 1 3 = 5 | get 0 1 4 = 5");
        edge("onto themselves", "row 0 2 1 2 3 | copy 0 0 0 0 3 = 1 | get 0 2 0 = 1 | get 0 2 2 = 3");
        edge("60 items", "sheet 2 1 60 | sheet 3 1 60 | lay 2 1 0 300 | lay 2 1 59 -300 | copy 2 0 3 0 60 = 1 | get 3 1 0 = 300",
            "get 3 1 59 = -300 | get 3 1 58 = 0");
        edge("59 upwards of 60", "sheet 2 1 60 | lay 2 1 0 1 | lay 2 1 58 2 | copy 2 0 2 1 59 = 1 | get 2 1 0 = 1 | get 2 1 1 = 1",
            "get 2 1 2 = 0 | get 2 1 59 = 2");
    }

    private static void copiesRefused() {
        promise = 34;
        String two = "row 0 2 1 2 3 4 5 | row 1 2 6 7 8 | ";
        String same = " | get 1 2 0 = 6 | get 1 2 1 = 7 | get 1 2 2 = 8 | get 0 2 0 = 1 | get 0 2 4 = 5";
        String[] index = {"-1 # 0 1", "0 # -1 1", "0 # 0 -1", "-1 # 0 0", "0 # -1 0", "0 # 0 4", "3 # 0 3", "0 # 1 3", "6 # 0 0", "0 # 4 0", "5 # 0 1", "0 # 3 1",
            "MAX # 0 1", "0 # MAX 1", "0 # 0 MAX", "1 # 0 MAX", "0 # 1 MAX", "MAX # 0 MAX", "MAX # MAX MAX", "MIN # 0 1", "0 # MIN 1", "0 # 0 MIN", "MIN # MIN MIN",
            "MAX # 0 0", "0 # MAX 0", "1 # 1 MIN"};
        for (String i : index) {
            edge("INDEX of copy 0 " + i.replace("#", "1"), two + "copy 0 " + i.replace("#", "1") + " = INDEX | count 8 = 2" + same);
        }
        edge("61 of 60", "sheet 0 0 60 | sheet 1 0 60 | copy 0 0 1 0 61 = INDEX");
        edge("one of no items", "sheet 0 2 0 | sheet 1 2 1 | copy 0 0 1 0 1 = INDEX | copy 1 0 0 0 1 = INDEX");
        edge("in one SHEET over its end", "row 0 2 1 2 3 | copy 0 0 0 1 3 = INDEX | get 0 2 1 = 2 | get 0 2 2 = 3");
        edge("s is LOST", two + "copy 2 0 0 0 0 = NULL | count 8 = 1" + same);
        edge("t is LOST", two + "copy 0 0 2 0 0 = NULL | count 8 = 1 | lose 2 = NULL");
        edge("both are LOST", two + "copy 2 0 3 0 0 = NULL | count 8 = 1");
        edge("one with itself, LOST", two + "copy 2 0 2 0 0 = NULL | count 8 = 1");
        for (int s = 0; s <= 2; s++) {
            for (int t = 0; t <= 2; t++) {
                edge("FORM " + s + " to FORM " + t, "row 0 " + s + " 5 | row 1 " + t + " 6 | copy 0 0 1 0 1 = " + (s == t ? "1" : "STORE"),
                    "count 8 = " + (s == t ? 0 : 4) + " | get 1 " + t + " 0 = " + (s == t ? 5 : 6));
            }
        }
        edge("STORE for no items too", "sheet 0 0 0 | sheet 1 1 0 | copy 0 0 1 0 0 = STORE | count 8 = 4");
    }

    private static void writes() {
        promise = 35;
        edge("no items", "sheet 0 2 0 | write 0 0 = 0");
        edge("one item", "cell 0 0 7 | sheet 0 2 1 | write 0 0 = 1 | get 0 2 0 = 7");
        edge("23 items", "cell 22 0 7 | sheet 0 2 23 | write 0 0 = 23 | get 0 2 22 = 7");
        edge("24 items", "cell 23 0 7 | sheet 0 2 24 | write 0 0 = 24 | get 0 2 23 = 7");
        edge("25 items", "cell 23 0 7 | sheet 0 2 25 | lay 0 2 24 9 | write 0 0 = 24 | get 0 2 23 = 7 | get 0 2 24 = 9");
        edge("60 items", "sheet 0 2 60 | lay 0 2 24 9 | lay 0 2 59 9 | write 0 0 = 24 | get 0 2 24 = 9 | get 0 2 59 = 9");
        String hot = STILL + " | cell 0 0 400 | cell 1 0 255 | cell 2 0 256 | cell 3 0 127 | cell 4 0 128 | " + often("dial 3 5 1", 8) + " | ";
        edge("bytes keep the lowest bits", hot + "sheet 0 0 6 | write 40 0 = 6 | get 0 0 0 = -112 | get 0 0 1 = -1 | get 0 0 2 = 0",
            "get 0 0 3 = 127 | get 0 0 4 = -128 | get 0 0 5 = 88");
        edge("shorts keep all of it", hot + "sheet 0 1 6 | write 40 0 = 6 | get 0 1 0 = 400 | get 0 1 1 = 255 | get 0 1 5 = 600");
        edge("STEP 0", hot + "sheet 0 2 6 | write 0 0 = 6 | get 0 2 5 = 200");
        edge("STEP 1", hot + "sheet 0 2 6 | write 1 0 = 6 | get 0 2 5 = 320");
        edge("STEP 39 and STEP 40", STILL, "dial 2 0 1 | cell 1 0 0 | sheet 3 2 2 | write 39 3 = 2 | get 3 2 1 = 390 | write 40 3 = 2",
            "get 3 2 1 = 400");
        edge("STEP 41", "sheet 0 2 1 | write 41 0 = BAD | write -1 0 = BAD | get 0 2 0 = 0");
        edge("LOST", "write 0 0 = NULL | count 8 = 1 | lose 0 = NULL");
        edge("what was written can be read", "cell 5 0 7 | sheet 0 1 24 | write 0 0 | cell 5 0 8 | read 0 0 = 24 | warmth 0 5 0 = 7");
    }

    private static void counts() {
        promise = 36;
        edge("0 to 4 of nothing", "count 0 = 0 | count 1 = 0 | count 2 = 0 | count 3 = 100 | count 4 = 0");
        edge("0 to 4 of all that there can be", CROWDED, "count 0 = 6 | count 1 = 8 | count 4 = 240");
        edge("5, 6, 7, 9 are nothing", "count 5 = BAD | count 6 = BAD | count 7 = BAD | count 9 = BAD");
        edge("OUT at both ends", "set 0 -200 | count 3 = -200 | set 0 400 | count 3 = 400");
        edge("OUT of -2 is no refusal", "set 0 -2 = 100 | count 3 = -2 | set 0 0 = -2");
        edge("NULL is 1", "lose 0 | count 8 = 1");
        edge("INDEX is 2", "sheet 0 0 0 | lay 0 0 0 0 | count 8 = 2");
        edge("CAST is 3", "sheet 0 0 0 | lay 0 1 0 0 | count 8 = 3");
        edge("STORE is 4", "sheet 0 0 0 | sheet 1 1 0 | copy 0 0 1 0 0 | count 8 = 4");
        edge("SIZE is 5", "sheet 0 0 -1 | count 8 = 5");
        edge("the latest counts", "lose 0 | sheet 0 0 -1 | count 8 = 5 | lose 0 | count 8 = 1 | sheet 0 0 0 | lay 0 0 0 0 | count 8 = 2");
        edge("what is well leaves it", "sheet 0 0 -1 | sheet 0 0 1 | lay 0 0 0 1 | get 0 0 0 | copy 0 0 0 0 1 | write 0 0 | read 0 0",
            "lose 0 = 1 | count 8 = 5");
        edge("BAD leaves it", "sheet 0 0 -1 | sheet 4 0 0 | lose 4 | lay 4 0 0 0 | get 4 0 0 | copy 4 0 0 0 0 | write 41 0 | count 9",
            "count 8 = 5");
        edge("NOT, FULL and NONE leave it", often("person 0 0 400", 6), "sheet 0 0 -1 | best 0 0 = NOT | person 0 0 0 = FULL | seats 0 = FULL | dial 0 0 300 | sheet 0 0 1",
            "vote 0 0 0 = NOT | gain 0 0 0 0 = NOT | span 0 0 = NOT | monday 0 0 600 1 = NONE | best 0 0 | fault 0 = NONE | count 8 = 5");
    }

    /** The digest without a limit to its length, from the answers of other calls; then as much of it as a long has. */
    private static void digest(String caseName, String setup) {
        begin(caseName);
        Desk desk = new Desk(EdgesTest::due);
        desk.plays(setup);
        List<String> asked = new ArrayList<>(List.of("count 0", "count 1", "count 2", "count 3", "count 4"));
        int persons = (int) desk.call("count 0");
        for (int p = 0; p < persons; p++) {
            asked.add("fault " + p);
        }
        for (int p = 0; p < persons; p++) {
            asked.add("all " + p + " 0");
            asked.add("all " + p + " 1");
        }
        asked.addAll(List.of("run 0", "run 1"));
        for (int step : new int[] {0, 1, 20, 40}) {
            asked.addAll(List.of(each("warmth " + step + " # 0", 0, 23).split(" \\| ")));
        }
        int dials = (int) desk.call("count 1");
        for (int d = 0; d < dials; d++) {
            asked.add("number 39 " + d);
        }
        asked.add("ring");
        BigInteger h = BigInteger.valueOf(17);
        for (String call : asked) {
            h = h.multiply(BigInteger.valueOf(31)).add(BigInteger.valueOf(desk.call(call)));
        }
        due("whether it fits into a long", h.bitLength() < 64 ? 1 : 0, 0);
        due("digest", desk.call("digest"), h.longValue());
        due("digest again", desk.call("digest"), h.longValue());
        due("whether it fits into an int", h.longValue() == h.intValue() ? 1 : 0, 0);
    }

    private static void digests() {
        promise = 37;
        digest("a new object", EMPTY);
        digest("some of everything", RICH);
        digest("all that there can be", CROWDED);
        digest("FAULTS and numbers below 0", "set 0 -200 | person 0 0 0 | person 1 300 300 | habits 0 k1 | dial 5 0 1");
        digest("a ring", STILL + " | person 0 300 300 | person 0 300 300 | dial 4 0 0 | habits 0 k0:0+ | habits 1 k0:0- | ring = 3");
        digest("a number that changes in the last STEP", STILL + " | person 0 300 300 | dial 4 0 0 | habits 0 k0:0+;k0:0- | number 38 0 = 1 | number 39 0 = 0");
    }

    // ---- limits of each argument

    /** An argument (? in the call) at both of its limits, just outside of them and at the ends of all ints. */
    private static void limits(String setup, String call, int least, int most) {
        for (int v : new int[] {least, most}) {
            String inside = call.replace("?", String.valueOf(v));
            begin(inside + " is no BAD one");
            Desk desk = new Desk(EdgesTest::due);
            desk.plays(setup);
            due(inside + " is refused", desk.call(inside) == Desk.value("BAD") ? 1 : 0, 0);
        }
        for (int v : new int[] {least - 1, most + 1, Integer.MIN_VALUE, Integer.MAX_VALUE}) {
            refused(setup, call.replace("?", String.valueOf(v)), "BAD");
        }
    }

    private static void limitsOfArguments() {
        limitsOnFloor();
        limitsOfPersons();
        limitsOfDials();
        limitsInRun();
        limitsOfBest();
        limitsOfVotes();
        limitsOfSheets();
    }

    private static void limitsOnFloor() {
        promise = 2;
        limits(RICH, "cell ? 0 5", 0, 23);
        limits(RICH, "cell ? 1 5", 0, 23);
        limits(RICH, "cell 0 ? 5", 0, 1);
        limits(RICH, "cell 0 0 ?", 0, 400);
        limits(RICH, "cell 23 1 ?", 0, 400);
        promise = 3;
        limits(RICH, "read ? 0", 0, 3);
        limits(RICH, "read 2 ?", 0, 23);
        promise = 4;
        limits(RICH, "wall ? 1 true", 0, 0);
        limits(RICH, "wall ? 1 true", 2, 2);
        limits(RICH, "wall 17 ? true", 23, 23);
        limits(RICH, "wall 17 ? true", 16, 16);
        limits(RICH, "wall 17 ? true", 11, 11);
        limits(RICH, "wall ? 14 false", 8, 8);
        for (String call : new String[] {"wall MIN MAX true", "wall MAX MIN true", "wall MIN MIN true", "wall MAX MAX false", "wall 0 MIN false", "wall MAX 23 true"}) {
            refused(RICH, call, "BAD");
        }
        promise = 5;
        limits(RICH, "set ? 1", 0, 5);
        limits(RICH, "set 0 ?", -200, 400);
        limits(RICH, "set 1 ?", 0, 20);
        limits(RICH, "set 2 ?", 0, 20);
        limits(RICH, "set 3 ?", 0, 30);
        limits(RICH, "set 4 ?", 0, 20);
        limits(RICH, "set 5 ?", 1, 60);
    }

    private static void limitsOfPersons() {
        promise = 6;
        limits(RICH, "person ? 200 210", 0, 23);
        limits(RICH, "person 0 ? 400", 0, 400);
        limits(RICH, "person 0 ? 200", 0, 200);
        limits(RICH, "person 0 0 ?", 0, 400);
        limits(RICH, "person 0 200 ?", 200, 400);
        limits(RICH, "person 0 400 ?", 400, 400);
        promise = 7;
        limits(RICH, "seat ? 5", 0, 2);
        limits(CROWDED, "seat ? 5", 0, 5);
        limits(RICH, "seat 0 ?", 0, 23);
        promise = 8;
        limits(RICH, "type ? 65", 0, 2);
        limits(RICH, "type 0 ?", 0, 255);
        promise = 9;
        limits(RICH, "wipe ?", 0, 2);
        limits(CROWDED, "wipe ?", 0, 5);
        promise = 10;
        limits(RICH, "fault ?", 0, 2);
        limits(CROWDED, "fault ?", 0, 5);
    }

    private static void limitsOfDials() {
        promise = 11;
        limits(RICH, "dial ? 0 0", 1, 5);
        limits(RICH, "dial ? 0 100", 0, 0);
        limits(RICH, "dial 0 ? 200", 0, 23);
        limits(RICH, "dial 3 ? 0", 0, 23);
        limits(RICH, "dial 0 0 ?", 100, 300);
        for (int kind = 1; kind <= 5; kind++) {
            limits(RICH, "dial " + kind + " 0 ?", 0, 1);
        }
        promise = 12;
        limits(EMPTY + " | dial 0 0 200 | dial 0 1 200 | dial 0 2 200", "tune ? 2 200", 0, 2);
        limits(EMPTY + " | dial 0 0 200 | dial 0 1 200 | dial 0 2 200", "tune ? 0 20", 0, 2);
        limits(RICH, "tune ? 1 20", 0, 0);
        limits(RICH, "tune ? 1 20", 6, 6);
        limits(RICH, "tune 0 ? 10", 0, 1);
        limits(RICH, "tune 0 ? 100", 1, 2);
        limits(RICH, "tune 1 ? 1", 2, 2);
        limits(RICH, "tune 0 0 ?", 0, 23);
        limits(RICH, "tune 0 1 ?", 1, 16777215);
        limits(RICH, "tune 0 2 ?", 100, 300);
        for (int dial = 1; dial <= 5; dial++) {
            limits(RICH, "tune " + dial + " 2 ?", 0, 1);
            refused(RICH, "tune " + dial + " 0 5", "BAD");
            refused(RICH, "tune " + dial + " 1 5", "BAD");
        }
    }

    private static void limitsInRun() {
        promise = 13;
        limits(RICH, "warmth ? 0 0", 0, 40);
        limits(RICH, "warmth 0 ? 0", 0, 23);
        limits(RICH, "warmth 40 ? 1", 0, 23);
        limits(RICH, "warmth 0 0 ?", 0, 1);
        promise = 14;
        limits(RICH, "number ? 0", 0, 39);
        limits(RICH, "number 0 ?", 0, 6);
        limits(CROWDED, "number 39 ?", 0, 7);
        promise = 15;
        limits(RICH, "did ? 0 0", 0, 39);
        limits(RICH, "did ? 2 1", 0, 39);
        limits(RICH, "did 0 ? 0", 0, 2);
        limits(CROWDED, "did 39 ? 1", 0, 5);
        limits(RICH, "did 0 0 ?", 0, 1);
        promise = 16;
        limits(RICH, "all ? 0", 0, 2);
        limits(CROWDED, "all ? 1", 0, 5);
        limits(RICH, "all 0 ?", 0, 1);
        promise = 17;
        limits(RICH, "run ?", 0, 1);
        int[][] pairs = {{18, 2}, {20, 2}, {19, 6}};
        for (int[] pair : pairs) {
            promise = pair[0];
            String call = promise == 18 ? "harm" : promise == 19 ? "fight" : "leads";
            int last = pair[1];
            limits(RICH, call + " ? 0", 1, last);
            limits(RICH, call + " ? " + last, 0, last - 1);
            limits(RICH, call + " 0 ?", 1, last);
            limits(RICH, call + " " + last + " ?", 0, last - 1);
        }
    }

    private static void limitsOfBest() {
        promise = 22;
        limits(RICH, "best ? 0", 0, 9999);
        limits(RICH, "best ? 2", 0, 9999);
        limits(RICH, "best 9999 ?", 0, 2);
        promise = 23;
        limits(RICH, "seats ?", -1, 2);
        limits(CROWDED, "seats ?", -1, 5);
        promise = 24;
        limits(RICH, "feel ?", 0, 0);
        limits(RICH, "feel ?", 6, 6);
        promise = 25;
        limits(RICH, "worth ?", 0, 6);
        limits(CROWDED, "worth ?", 0, 7);
    }

    private static void limitsOfVotes() {
        promise = 26;
        limits(RICH, "vote ? 0 0", 0, 3);
        limits(RICH, "vote 0 ? 0", 0, 0);
        limits(RICH, "vote 0 ? 0", 6, 6);
        limits(RICH, "vote 0 0 ?", 0, 1);
        promise = 27;
        limits(RICH, "gain ? 0 0 0", 0, 3);
        limits(RICH, "gain 0 ? 0 0", 0, 0);
        limits(RICH, "gain 0 ? 0 0", 6, 6);
        limits(RICH, "gain 0 0 ? 0", 0, 1);
        limits(RICH, "gain 0 0 0 ?", 0, 2);
        promise = 28;
        limits(RICH, "monday ? 0 200 40", 0, 0);
        limits(RICH, "monday ? 0 200 40", 6, 6);
        limits(RICH, "monday 0 ? 200 40", 0, 23);
        limits(RICH, "monday 0 0 ? 40", 0, 600);
        limits(RICH, "monday 0 0 200 ?", 1, 40);
        promise = 29;
        limits(RICH, "span ? 0", 0, 3);
        limits(RICH, "span 1 ?", 0, 3);
    }

    private static void limitsOfSheets() {
        promise = 30;
        limits(RICH, "sheet ? 0 1", 0, 3);
        limits(RICH, "sheet 0 ? 1", 0, 2);
        for (String n : new String[] {"61", "62", "MAX"}) {
            refused(RICH, "sheet 0 0 " + n, "BAD");
            refused(RICH, "sheet 3 2 " + n, "BAD");
        }
        promise = 31;
        limits(RICH, "lose ?", 0, 3);
        promise = 32;
        limits(RICH, "lay ? 0 0 1", 0, 3);
        limits(RICH, "lay 0 ? 0 1", 0, 2);
        promise = 33;
        for (String v : new String[] {"-1", "4", "MIN", "MAX"}) {
            refusedGet(RICH, "get " + v + " 0 0", 0);
        }
        for (String v : new String[] {"-1", "3", "MIN", "MAX"}) {
            refusedGet(RICH, "get 0 " + v + " 0", 0);
        }
        promise = 34;
        limits(RICH, "copy ? 0 0 0 0", 0, 3);
        limits(RICH, "copy 0 0 ? 0 0", 0, 3);
        promise = 35;
        limits(RICH, "write ? 0", 0, 40);
        limits(RICH, "write 0 ?", 0, 3);
        promise = 36;
        limits(RICH, "count ?", 0, 4);
        limits(RICH, "count ?", 8, 8);
    }

    // ---- refusals change nothing

    /** All that can be seen by further calls, in groups that a setup leaves calls for. */
    private static final String[] VIEWS = {
        each("count #", 0, 4) + " | digest | run 0 | run 1 | ring | " + each("fault #", 0, 5) + " | " + each("all # 0 | all # 1", 0, 5)
            + " | best 9999 0 | best 9999 1 | best 9999 2 | " + each("seats #", -1, 5) + " | " + each("feel # | worth #", 0, 7),
        each("warmth 0 # 0 | warmth 0 # 1 | warmth 1 # 0 | warmth 1 # 1 | warmth 40 # 0 | warmth 40 # 1", 0, 23),
        each("get 0 0 # | get 0 1 # | get 0 2 #", 0, 59) + " | lose 0",
        each("get 1 0 # | get 1 1 # | get 1 2 #", 0, 59) + " | lose 1",
        each("get 2 0 # | get 2 1 # | get 2 2 #", 0, 59) + " | lose 2",
        each("get 3 0 # | get 3 1 # | get 3 2 #", 0, 59) + " | lose 3",
        each("tune # 0 0 | tune # 1 1 | tune # 2 0 | tune # 2 100", 0, 7) + " | " + each("seat # 0 | wipe #", 0, 5) + " | " + each("set # 1", 0, 5)
            + " | " + each("cell # 0 0 | cell # 1 0", 0, 23),
        each("number 0 # | number 1 # | number 39 #", 0, 7) + " | " + each("did 0 # 0 | did 0 # 1 | did 39 # 1", 0, 5) + " | "
            + each("harm 0 # | harm 1 # | harm 2 # | leads 0 # | leads 1 # | leads 2 #", 0, 5) + " | " + each("fight 0 # | fight 6 # | fight 3 #", 0, 7),
        often("type 0 65 | type 1 65 | type 2 65 | fault 0 | fault 1 | fault 2", 3) + " | " + often("person 0 0 400", 6) + " | " + often("dial 1 0 0", 8),
        walls("true"), walls("false")};

    private static final Map<String, long[][]> SEEN = new HashMap<>();

    private static String walls(String is) {
        StringBuilder calls = new StringBuilder("count 2");
        for (int cell = 0; cell < 24; cell++) {
            calls.append(" | wall ").append(cell).append(' ').append(cell + 1).append(' ').append(is);
            calls.append(" | wall ").append(cell).append(' ').append(cell + 6).append(' ').append(is);
        }
        return calls.toString();
    }

    private static long[][] seenBehind(String setup, String call) {
        long[][] seen = new long[VIEWS.length][];
        for (int i = 0; i < VIEWS.length; i++) {
            Desk desk = new Desk(EdgesTest::due);
            desk.plays(setup);
            if (!call.isEmpty()) {
                desk.call(call);
            }
            seen[i] = Arrays.stream(VIEWS[i].split(" \\| ")).mapToLong(desk::call).toArray();
        }
        return seen;
    }

    private static void changesNothing(String setup, String call) {
        long[][] before = SEEN.computeIfAbsent(setup, s -> seenBehind(s, ""));
        long[][] behind = seenBehind(setup, call);
        for (int i = 0; i < VIEWS.length; i++) {
            String[] asked = VIEWS[i].split(" \\| ");
            for (int j = 0; j < asked.length; j++) {
                due(asked[j] + " behind " + call, behind[i][j], before[i][j]);
            }
        }
    }

    private static void refused(String setup, String call, String answer, int finding) {
        begin(call + " is refused");
        Desk desk = new Desk(EdgesTest::due);
        desk.plays(setup);
        long before = desk.call("count 8");
        due(call, desk.call(call), Desk.value(answer));
        due("count 8 behind " + call, desk.call("count 8"), finding == 0 ? before : finding);
        changesNothing(setup, call);
    }

    private static void refused(String setup, String call, String answer) {
        int v = Desk.value(answer);
        refused(setup, call, answer, v <= -10 ? -10 - v : 0);
    }

    /** get answers the least int to all that is refused; count(8) tells more. */
    private static void refusedGet(String setup, String call, int finding) {
        refused(setup, call, "MIN", finding);
    }

    private static void refusals() {
        refusalsOfLostSheets();
        refusalsOfFullThings();
        refusalsOfWrongItems();
        refusalsOfSheets();
    }

    private static void refusedBy(int p, String setup, String answer, String... calls) {
        promise = p;
        for (String call : calls) {
            refused(setup, call, answer);
        }
    }

    private static void refusalsOfLostSheets() {
        refusedBy(3, RICH, "NULL", "read 3 0", "read 3 23");
        refusedBy(26, RICH, "NULL", "vote 3 0 0", "vote 3 6 1");
        refusedBy(27, RICH, "NULL", "gain 3 0 0 0", "gain 3 6 1 2");
        refusedBy(29, RICH, "NULL", "span 3 0", "span 3 3");
        refusedBy(31, RICH, "NULL", "lose 3");
        refusedBy(32, RICH, "NULL", "lay 3 0 0 1", "lay 3 2 0 1");
        promise = 33;
        refusedGet(RICH, "get 3 0 0", 1);
        refusedGet(RICH, "get 3 2 0", 1);
        refusedBy(34, RICH, "NULL", "copy 3 0 0 0 0", "copy 0 0 3 0 0", "copy 3 0 3 0 0");
        refusedBy(35, RICH, "NULL", "write 0 3", "write 40 3");
    }

    private static void refusalsOfFullThings() {
        refusedBy(6, CROWDED, "FULL", "person 0 0 400", "person 23 400 400");
        refusedBy(8, CROWDED, "FULL", "type 0 59", "type 5 0", "type 3 255");
        refusedBy(11, CROWDED, "FULL", "dial 0 0 100", "dial 5 23 1");
        refusedBy(23, CROWDED, "FULL", "seats NONE", "seats 0", "seats 5");
        promise = 6;
        edge("there is room for the sixth", often("person 0 0 400", 5), "person 0 0 400 = 5");
        promise = 8;
        edge("there is room for the 40th", "person 0 0 0", often("type 0 59", 39), "type 0 59 = 40");
        promise = 11;
        edge("there is room for the eighth", often("dial 1 0 0", 7), "dial 1 0 0 = 7");
        promise = 23;
        edge("five can be seated", often("person 0 0 400", 5), "seats NONE = 20000");
    }

    private static void refusalsOfWrongItems() {
        refusedBy(22, "person 0 0 400 | dial 3 0 1", "NOT", "best 0 0", "best 9999 1", "best 80 2");
        refusedBy(22, "person 0 0 400 | dial 3 0 1 | dial 0 5 200", "NONE", "best 79 0", "best 0 1", "best 79 2");
        refusedBy(26, RICH, "NOT", "vote 1 0 0", "vote 2 0 1", "vote 1 6 0");
        refusedBy(26, RICH + " | lay 0 0 1 2", "NOT", "vote 0 0 0", "vote 0 0 1");
        refusedBy(27, RICH, "NOT", "gain 1 0 0 0", "gain 2 6 1 2");
        refusedBy(27, RICH + " | lay 0 0 1 -2", "NOT", "gain 0 0 0 1", "gain 0 0 1 0");
        refusedBy(29, RICH, "NOT", "span 0 0", "span 2 1");
        refusedBy(29, RICH + " | lay 1 1 0 210", "NOT", "span 1 0", "span 1 1", "span 1 2", "span 1 3");
        refusedBy(28, RICH, "NONE", "monday 0 23 600 1", "monday 0 0 600 40");
    }

    private static void refusalsOfSheets() {
        refusedBy(30, RICH, "SIZE", "sheet 0 0 -1", "sheet 3 2 -1", "sheet 2 1 MIN", "sheet 1 1 -61");
        refusedBy(32, RICH, "CAST", "lay 0 1 0 9", "lay 0 2 0 9", "lay 1 0 0 9", "lay 1 2 0 9", "lay 2 0 0 9", "lay 2 1 0 9");
        refusedBy(32, RICH, "INDEX", "lay 0 0 3 9", "lay 0 0 -1 9", "lay 1 1 4 9", "lay 2 2 4 9", "lay 2 2 MIN 9", "lay 2 2 MAX 9");
        refusedBy(32, CROWDED, "INDEX", "lay 0 0 60 9", "lay 2 2 -1 9", "lay 3 2 60 9");
        promise = 33;
        for (String call : new String[] {"get 0 1 0", "get 0 2 0", "get 1 0 0", "get 1 2 0", "get 2 0 0", "get 2 1 0"}) {
            refusedGet(RICH, call, 3);
        }
        for (String call : new String[] {"get 0 0 3", "get 0 0 -1", "get 1 1 4", "get 2 2 4", "get 2 2 MIN", "get 2 2 MAX"}) {
            refusedGet(RICH, call, 2);
        }
        refusedGet(CROWDED, "get 3 2 60", 2);
        refusedBy(34, RICH, "STORE", "copy 0 0 1 0 1", "copy 1 0 2 0 1", "copy 2 0 0 0 0");
        refusedBy(34, RICH, "INDEX", "copy 0 -1 0 0 1", "copy 0 0 0 -1 1", "copy 0 0 0 0 -1", "copy 0 0 0 0 4", "copy 2 4 2 0 1", "copy 2 0 2 4 1",
            "copy 2 1 2 0 MAX", "copy 2 MAX 2 MAX MAX", "copy 2 MIN 2 0 MIN");
        refusedBy(34, CROWDED, "INDEX", "copy 2 0 3 0 61", "copy 2 1 3 0 60", "copy 3 0 2 1 60");
    }

    // ---- two refusals fit: the first in the order told is the answer

    private static void twoBadArguments() {
        refusedBy(2, RICH, "BAD", "cell 24 2 401", "cell -1 0 -1", "cell 0 2 401");
        refusedBy(4, RICH, "BAD", "wall 24 25 true", "wall -1 -7 false", "wall 24 24 true");
        refusedBy(5, RICH, "BAD", "set 6 -1", "set -1 401");
        refusedBy(7, RICH, "BAD", "seat 3 24", "seat -1 -1");
        refusedBy(12, RICH, "BAD", "tune 7 3 0", "tune 1 0 24", "tune 1 1 0", "tune -1 -1 -1");
        refusedBy(13, RICH, "BAD", "warmth 41 24 2", "warmth -1 -1 -1");
        refusedBy(14, RICH, "BAD", "number 40 7", "number -1 -1");
        refusedBy(15, RICH, "BAD", "did 40 3 2", "did -1 -1 -1");
        refusedBy(16, RICH, "BAD", "all 3 2", "all -1 -1");
        refusedBy(18, RICH, "BAD", "harm 3 3", "harm -1 -1", "harm 0 0", "harm 2 2");
        refusedBy(19, RICH, "BAD", "fight 7 7", "fight -1 -1", "fight 0 0", "fight 6 6");
        refusedBy(20, RICH, "BAD", "leads 3 3", "leads -1 -1", "leads 0 0", "leads 2 2");
    }

    private static void firstOfTwoRefusals() {
        refusedBy(3, RICH, "BAD", "read 3 24", "read 3 -1", "read 4 24");
        refusedBy(6, CROWDED, "BAD", "person 24 0 400", "person 0 -1 400", "person 0 0 401", "person 0 5 4");
        refusedBy(8, CROWDED, "BAD", "type 0 256", "type 0 -1", "type 6 65", "type -1 65");
        refusedBy(11, CROWDED, "BAD", "dial 6 0 0", "dial 0 24 200", "dial 0 0 301", "dial 1 0 2");
        refusedBy(22, "dial 3 0 1", "BAD", "best 10000 0", "best -1 0", "best 0 3", "best 0 -1");
        refusedBy(22, "dial 3 0 1", "NOT", "best 0 0", "best 79 2");
        refusedBy(23, CROWDED, "BAD", "seats 6", "seats -2", "seats MAX", "seats MIN");
        refusedBy(26, RICH, "BAD", "vote 3 1 0", "vote 3 0 2", "vote 1 0 2", "vote 1 1 0", "vote 1 7 0");
        refusedBy(26, RICH, "NULL", "vote 3 0 0");
        refusedBy(27, RICH, "BAD", "gain 3 0 0 3", "gain 3 1 0 0", "gain 3 0 2 0", "gain 1 0 0 3", "gain 1 0 2 0", "gain 1 1 0 0", "gain 3 0 0 -1");
        refusedBy(27, RICH, "NULL", "gain 3 0 0 0");
        refusedBy(28, RICH, "BAD", "monday 0 23 600 0", "monday 0 24 600 1", "monday 1 23 600 1");
        refusedBy(29, RICH, "BAD", "span 3 4", "span 3 -1", "span 0 4");
        refusedBy(30, RICH, "BAD", "sheet 4 0 -1", "sheet -1 0 -1", "sheet 0 3 -1", "sheet 0 -1 MIN", "sheet 4 3 61");
        refusedBy(32, RICH, "BAD", "lay 3 3 0 1", "lay 3 -1 -1 1", "lay 4 0 -1 1", "lay 0 3 9 1");
        refusedBy(32, RICH, "NULL", "lay 3 0 -1 1", "lay 3 2 60 1");
        refusedBy(32, RICH, "CAST", "lay 0 1 3 1", "lay 0 2 -1 1", "lay 2 0 MAX 1");
        promise = 33;
        refusedGet(RICH, "get 3 3 0", 0);
        refusedGet(RICH, "get 4 0 -1", 0);
        refusedGet(RICH, "get 0 3 9", 0);
        refusedGet(RICH, "get 3 0 -1", 1);
        refusedGet(RICH, "get 0 1 3", 3);
        refusedGet(RICH, "get 2 0 -1", 3);
        refusedBy(34, RICH, "BAD", "copy 4 0 3 0 0", "copy 3 0 4 0 0", "copy 4 -1 0 0 0", "copy 0 -1 -1 0 9");
        refusedBy(34, RICH, "NULL", "copy 3 -1 0 0 1", "copy 0 0 3 0 9", "copy 0 -1 3 -1 -1");
        refusedBy(34, RICH, "STORE", "copy 0 -1 1 0 1", "copy 0 0 1 0 9", "copy 1 0 2 -1 -1", "copy 2 MAX 0 MAX MAX");
        refusedBy(35, RICH, "BAD", "write 41 3", "write -1 3", "write 41 4");
    }

    // ---- questions change nothing

    private static void questionsChangeNothing() {
        String[][] questions = {{"10", "fault 0"}, {"13", "warmth 40 0 0"}, {"14", "number 39 0"}, {"15", "did 39 0 1"}, {"16", "all 0 1"}, {"17", "run 0"},
            {"18", "harm 0 1"}, {"19", "fight 0 2"}, {"20", "leads 0 1"}, {"21", "ring"}, {"22", "best 9999 2"}, {"23", "seats 0"}, {"24", "feel 6"},
            {"25", "worth 1"}, {"26", "vote 0 0 0"}, {"27", "gain 0 6 1 2"}, {"28", "monday 0 8 215 40"}, {"29", "span 1 0"}, {"33", "get 2 2 0"},
            {"34", "copy 0 0 0 0 3"}, {"36", "count 8"}, {"37", "digest"}};
        for (String[] question : questions) {
            promise = Integer.parseInt(question[0]);
            begin(question[1] + " changes nothing");
            changesNothing(RICH, question[1]);
        }
        promise = 4;
        begin("a WALL that is so already changes nothing");
        changesNothing(RICH, "wall 0 1 true");
        changesNothing(RICH, "wall 2 3 false");
    }

    // ---- questions beside one another, and behind changes

    private static final String[] QUESTIONS = {"warmth 40 8 0", "warmth 40 8 1", "number 39 0", "did 39 0 1", "all 0 1", "run 0", "run 1", "harm 0 1", "harm 2 1",
        "fight 0 2", "fight 0 6", "leads 0 1", "ring", "best 9999 0", "best 200 2", "best 9999 2", "seats 0", "seats NONE", "feel 0", "feel 6", "worth 0", "worth 1",
        "worth 4", "vote 0 0 0", "gain 0 0 0 0", "gain 0 6 1 2", "monday 0 8 215 40", "monday 6 20 195 9", "span 1 0", "digest"};

    /** What one question tried out must not be found in the answer to the next one. */
    private static void questionsLeaveOthers() {
        promise = 37;
        for (String setup : new String[] {RICH, RICH + " | person 20 180 185 | habits 3 w1:6-;w9:4+"}) {
            for (String question : QUESTIONS) {
                Desk alone = new Desk(EdgesTest::due);
                alone.plays(setup);
                long due = alone.call(question);
                for (String other : QUESTIONS) {
                    begin(question + " behind " + other);
                    Desk desk = new Desk(EdgesTest::due);
                    desk.plays(setup);
                    desk.call(other);
                    due(question, desk.call(question), due);
                }
            }
        }
    }

    /** What was asked before a change must not be found in the answers behind it. */
    private static void changesAreSeen() {
        String[][] changes = {{"2", "cell 8 0 150"}, {"2", "cell 8 1 400"}, {"3", "read 2 0"}, {"3", "read 2 8"}, {"4", "wall 8 9 true"}, {"4", "wall 2 8 true"},
            {"4", "wall 0 1 false"}, {"4", "wall 8 14 false"}, {"5", "set 0 300"}, {"5", "set 1 0"}, {"5", "set 2 20"}, {"5", "set 3 30"}, {"5", "set 4 20"},
            {"5", "set 5 1"}, {"6", "person 10 250 260"}, {"7", "seat 0 10"}, {"8", "type 0 59"}, {"9", "wipe 0"}, {"9", "wipe 2"}, {"11", "dial 3 8 1"},
            {"12", "tune 0 0 23"}, {"12", "tune 0 1 255"}, {"12", "tune 0 2 300"}, {"12", "tune 4 2 0"}};
        for (String[] change : changes) {
            promise = Integer.parseInt(change[0]);
            begin(change[1] + " is seen by all who ask behind it");
            Desk early = new Desk(EdgesTest::due);
            Desk late = new Desk(EdgesTest::due);
            early.plays(RICH);
            late.plays(RICH);
            long before = early.call("digest");
            for (String question : QUESTIONS) {
                early.call(question);
            }
            early.call(change[1]);
            late.call(change[1]);
            for (String question : QUESTIONS) {
                due(question, early.call(question), late.call(question));
            }
            due("whether nothing is seen of it", early.call("digest") == before ? 1 : 0, 0);
        }
    }
}
