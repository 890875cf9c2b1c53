/** Each promise of the document by answers worked out by hand: ordinary inputs, edges, wrong inputs. */
public final class PromisesTest {
    private static final int NONE = WarmFloor.NONE, BAD = WarmFloor.BAD, NOT = WarmFloor.NOT, FULL = WarmFloor.FULL;
    private static final int NULL = -11, INDEX = -12, CAST = -13, STORE = -14, SIZE = -15;
    private static final int REAL = 0, FALSE = 1, FAN = 2, HEATER = 3, SHUT = 4, WINDOW = 5;
    private static final int LEAST = Integer.MIN_VALUE, MOST = Integer.MAX_VALUE;

    private static int wrong = 0;
    private static int promise = 0;

    private static void due(String call, long got, long want) {
        if (got != want) {
            wrong++;
            System.out.println("promise " + promise + ": " + call + " answered " + got + ", due is " + want);
        }
    }

    private static void habits(WarmFloor x, int person, String text) {
        for (char c : text.toCharArray()) {
            x.type(person, c);
        }
    }

    private static void sheetOf(WarmFloor x, int s, int form, int... items) {
        x.sheet(s, form, items.length);
        for (int i = 0; i < items.length; i++) {
            x.lay(s, form, i, items[i]);
        }
    }

    /** No flow, no soak: each CELL stays as it is but for DIALS. */
    private static WarmFloor still() {
        WarmFloor x = new WarmFloor();
        x.set(1, 0);
        x.set(2, 0);
        return x;
    }

    public static void main(String[] args) {
        newObject();
        cells();
        reads();
        walls();
        sets();
        persons();
        seatsOfPersons();
        types();
        wipes();
        faults();
        dials();
        tunes();
        flows();
        realDials();
        windowsAndFans();
        numbers();
        habitsInSteps();
        dids();
        alls();
        runs();
        harms();
        fights();
        leadings();
        rings();
        bestSettings();
        bestSeats();
        feels();
        worths();
        votes();
        gains();
        mondays();
        spans();
        newSheets();
        losses();
        layings();
        gettings();
        copies();
        writes();
        counts();
        digests();
        System.out.println(wrong == 0 ? "all answers are as due" : wrong + " answers are not as due");
        if (wrong != 0) {
            System.exit(1);
        }
    }

    private static void newObject() {
        promise = 1;
        WarmFloor x = new WarmFloor();
        int[] counts = {0, 0, 0, 100, 0};
        for (int what = 0; what < counts.length; what++) {
            due("count(" + what + ")", x.count(what), counts[what]);
        }
        due("count(8)", x.count(8), 0);
        for (int s = 0; s < 4; s++) {
            due("lose(" + s + ")", x.lose(s), NULL);
        }
        for (int cell = 0; cell < 24; cell++) {
            due("warmth(0, " + cell + ", 0)", x.warmth(0, cell, 0), 200);
            due("warmth(0, " + cell + ", 1)", x.warmth(0, cell, 1), 200);
            due("warmth(40, " + cell + ", 0)", x.warmth(40, cell, 0), 200);
        }
        due("fault(0)", x.fault(0), BAD);
        due("number(0, 0)", x.number(0, 0), BAD);
        due("run(0)", x.run(0), 0);
        due("run(1)", x.run(1), 0);
        due("ring()", x.ring(), 0);
        WarmFloor other = new WarmFloor();
        other.cell(0, 0, 7);
        other.set(0, 7);
        due("warmth of another object", x.warmth(0, 0, 0), 200);
        due("OUT of another object", x.count(3), 100);
        due("set of another new object", new WarmFloor().set(0, 7), 100);
    }

    private static void cells() {
        promise = 2;
        WarmFloor x = new WarmFloor();
        due("cell(0, 0, 0)", x.cell(0, 0, 0), 200);
        due("cell(0, 0, 400)", x.cell(0, 0, 400), 0);
        due("cell(0, 0, 1)", x.cell(0, 0, 1), 400);
        due("cell(23, 1, 400)", x.cell(23, 1, 400), 200);
        due("cell(23, 1, 0)", x.cell(23, 1, 0), 400);
        int[][] bad = {{-1, 0, 5}, {24, 0, 5}, {0, -1, 5}, {0, 2, 5}, {0, 0, -1}, {0, 0, 401}, {0, 1, -1}, {0, 1, 401},
            {LEAST, 0, 5}, {MOST, 0, 5}, {0, LEAST, 5}, {0, 0, LEAST}, {0, 0, MOST}};
        for (int[] b : bad) {
            due("cell(" + b[0] + ", " + b[1] + ", " + b[2] + ")", x.cell(b[0], b[1], b[2]), BAD);
        }
        due("warmth(0, 0, 0)", x.warmth(0, 0, 0), 1);
        due("warmth(0, 0, 1)", x.warmth(0, 0, 1), 200);
        due("warmth(0, 23, 0)", x.warmth(0, 23, 0), 200);
        due("warmth(0, 23, 1)", x.warmth(0, 23, 1), 0);
    }

    private static void reads() {
        promise = 3;
        WarmFloor x = new WarmFloor();
        due("read(0, 24): both", x.read(0, 24), BAD);
        due("read(0, -1)", x.read(0, -1), BAD);
        due("read(-1, 0)", x.read(-1, 0), BAD);
        due("read(4, 0)", x.read(4, 0), BAD);
        due("count(8) behind BAD", x.count(8), 0);
        due("read(0, 0) of a LOST one", x.read(0, 0), NULL);
        due("count(8)", x.count(8), 1);
        sheetOf(x, 0, 2, 400, 0, 401, 10);
        due("read(0, 5)", x.read(0, 5), 2);
        due("cell 5", x.warmth(0, 5, 0), 400);
        due("cell 6", x.warmth(0, 6, 0), 0);
        due("cell 7", x.warmth(0, 7, 0), 200);
        due("cell 8", x.warmth(0, 8, 0), 200);
        due("read(0, 23)", x.read(0, 23), 1);
        due("cell 23", x.warmth(0, 23, 0), 400);
        sheetOf(x, 1, 0, -1, 5);
        due("read(1, 0): first below 0", x.read(1, 0), 0);
        due("cell 0", x.warmth(0, 0, 0), 200);
        x.sheet(2, 1, 0);
        due("read(2, 0): empty", x.read(2, 0), 0);
        x.sheet(3, 0, 60);
        due("read(3, 0): all cells", x.read(3, 0), 24);
        due("cell 22", x.warmth(0, 22, 0), 0);
    }

    private static void walls() {
        promise = 4;
        WarmFloor x = new WarmFloor();
        x.cell(7, 0, 300);
        due("flow to 8", x.warmth(1, 8, 0), 210);
        due("flow to 13", x.warmth(1, 13, 0), 210);
        due("wall(7, 8, true)", x.wall(7, 8, true), 1);
        due("wall(8, 7, true)", x.wall(8, 7, true), 0);
        due("wall(13, 7, true)", x.wall(13, 7, true), 1);
        due("wall(7, 13, true)", x.wall(7, 13, true), 0);
        due("count(2)", x.count(2), 2);
        due("no flow to 8", x.warmth(1, 8, 0), 200);
        due("no flow to 13", x.warmth(1, 13, 0), 200);
        due("flow to 6", x.warmth(1, 6, 0), 210);
        due("flow to 1", x.warmth(1, 1, 0), 210);
        due("flow and soak from 7", x.warmth(1, 7, 0), 300 - 20 - 5);
        due("wall(8, 7, false)", x.wall(8, 7, false), 1);
        due("wall(8, 7, false) again", x.wall(8, 7, false), 0);
        due("count(2) less", x.count(2), 1);
        due("flow to 8 again", x.warmth(1, 8, 0), 210);
        due("wall(13, 7, false)", x.wall(13, 7, false), 1);
        due("flow to 13 again", x.warmth(1, 13, 0), 210);
        due("wall(13, 7, true) again", x.wall(13, 7, true), 1);
        int[][] bad = {{0, 0}, {0, 2}, {0, 7}, {5, 6}, {6, 5}, {11, 12}, {17, 18}, {0, 12}, {-1, 0}, {0, -1}, {23, 24},
            {24, 18}, {-6, 0}, {LEAST, MOST}, {MOST, LEAST}, {1, 6}};
        for (int[] b : bad) {
            due("wall(" + b[0] + ", " + b[1] + ", true)", x.wall(b[0], b[1], true), BAD);
            due("wall(" + b[0] + ", " + b[1] + ", false)", x.wall(b[0], b[1], false), BAD);
        }
        due("count(2) behind BAD", x.count(2), 1);
        int walls = 0;
        for (int a = 0; a < 24; a++) {
            for (int b = a; b < 24; b++) {
                if (x.wall(a, b, true) >= 0) {
                    walls++;
                }
            }
        }
        due("all places for walls", walls, 38);
        due("all walls", x.count(2), 38);
    }

    private static void sets() {
        promise = 5;
        WarmFloor x = new WarmFloor();
        int[] first = {100, 10, 5, 10, 5, 3};
        int[] least = {-200, 0, 0, 0, 0, 1};
        int[] most = {400, 20, 20, 30, 20, 60};
        for (int what = 0; what < 6; what++) {
            due("set(" + what + ", least)", x.set(what, least[what]), first[what]);
            due("set(" + what + ", most)", x.set(what, most[what]), least[what]);
            due("set(" + what + ", above)", x.set(what, most[what] + 1), BAD);
            due("set(" + what + ", below)", x.set(what, least[what] - 1), BAD);
            due("set(" + what + ", first)", x.set(what, first[what]), most[what]);
        }
        due("set(-1, 5)", x.set(-1, 5), BAD);
        due("set(6, 5)", x.set(6, 5), BAD);
        due("set(MOST, 5)", x.set(MOST, 5), BAD);
        due("set(LEAST, 5)", x.set(LEAST, 5), BAD);
    }

    private static void persons() {
        promise = 6;
        WarmFloor x = new WarmFloor();
        int[][] bad = {{-1, 0, 0}, {24, 0, 0}, {0, -1, 0}, {0, 401, 401}, {0, 0, 401}, {0, 5, 4}, {0, 0, -1}, {0, LEAST, 0},
            {MOST, 0, 0}, {0, 0, MOST}};
        for (int[] b : bad) {
            due("person(" + b[0] + ", " + b[1] + ", " + b[2] + ")", x.person(b[0], b[1], b[2]), BAD);
        }
        due("count(0)", x.count(0), 0);
        for (int i = 0; i < 6; i++) {
            due("person " + i, x.person(i == 0 ? 0 : 23, i == 1 ? 400 : 0, 400), i);
        }
        due("person, FULL", x.person(0, 0, 400), FULL);
        due("person, BAD ahead of FULL", x.person(24, 0, 400), BAD);
        due("count(0)", x.count(0), 6);
    }

    private static void seatsOfPersons() {
        promise = 7;
        WarmFloor x = still();
        x.person(3, 200, 200);
        x.person(3, 200, 200);
        due("seat(0, 23)", x.seat(0, 23), 3);
        due("seat(0, 0)", x.seat(0, 0), 23);
        due("seat(1, 3)", x.seat(1, 3), 3);
        int[][] bad = {{2, 0}, {-1, 0}, {0, -1}, {0, 24}, {LEAST, 0}, {0, MOST}};
        for (int[] b : bad) {
            due("seat(" + b[0] + ", " + b[1] + ")", x.seat(b[0], b[1]), BAD);
        }
        x.cell(0, 0, 210);
        due("points in the new seat", x.did(0, 0, 1), 80);
        due("points of the other", x.did(0, 1, 1), 100);
    }

    private static void types() {
        promise = 8;
        WarmFloor x = new WarmFloor();
        due("type(0, 65) for nobody", x.type(0, 65), BAD);
        x.person(0, 0, 0);
        due("type(0, -1)", x.type(0, -1), BAD);
        due("type(0, 256)", x.type(0, 256), BAD);
        due("type(1, 65)", x.type(1, 65), BAD);
        due("type(-1, 65)", x.type(-1, 65), BAD);
        due("type(0, 0)", x.type(0, 0), 1);
        due("type(0, 255)", x.type(0, 255), 2);
        for (int i = 3; i <= 40; i++) {
            due("type(0, 65) number " + i, x.type(0, 65), i);
        }
        due("type(0, 65), FULL", x.type(0, 65), FULL);
        due("type(0, 256), BAD ahead of FULL", x.type(0, 256), BAD);
        due("count(4)", x.count(4), 40);
        due("fault(0)", x.fault(0), 0);
    }

    private static void wipes() {
        promise = 9;
        WarmFloor x = still();
        due("wipe(0) of nobody", x.wipe(0), BAD);
        x.person(0, 210, 220);
        x.dial(HEATER, 5, 0);
        due("wipe(0) of an empty text", x.wipe(0), 0);
        habits(x, 0, "k1:0+x");
        due("fault(0)", x.fault(0), 5);
        due("wipe(0)", x.wipe(0), 6);
        due("fault(0) of none", x.fault(0), NONE);
        due("count(4)", x.count(4), 0);
        due("acts without habits", x.all(0, 0), 0);
        habits(x, 0, "k1:0+");
        due("fault(0) of a new text", x.fault(0), NONE);
        due("acts with the new text", x.all(0, 0), 1);
        due("wipe(-1)", x.wipe(-1), BAD);
        due("wipe(1)", x.wipe(1), BAD);
    }

    private static void faults() {
        promise = 10;
        String[] texts = {"", "k", "w", "K1:0+", ";", "k:", "k1", "k12", "k123", "k1234", "k1:", "k1:8+", "k1:7", "k1:7+", "k1:7-",
            "k1:7*", "k1:7+;", "k1:7+k", "k1:7+;;", "k1:7+;w999:0-", "k1:7+;w999:0-;", "k1:00", "k 1:0+", "k1;", "k-1:0+",
            "k0:0+;k0:0+;k0:0+;k0:0+;k0:0+;k0:0+;k0:0", "k000:0+ ", "\0", "w\u00ff", "k1:/+", "k/", "k1:0+\n"};
        int[] due = {NONE, 1, 1, 0, 0, 1, 2, 3, 4, 4, 3, 3, 4, NONE, NONE,
            4, 6, 5, 6, NONE, 14, 4, 1, 2, 1,
            40, 7, 0, 1, 3, 1, 5};
        for (int i = 0; i < texts.length; i++) {
            WarmFloor x = new WarmFloor();
            x.person(0, 0, 0);
            habits(x, 0, texts[i]);
            due("fault(0) of '" + texts[i] + "'", x.fault(0), due[i]);
        }
        WarmFloor x = new WarmFloor();
        due("fault(0) of nobody", x.fault(0), BAD);
        x.person(0, 0, 0);
        due("fault(1)", x.fault(1), BAD);
        due("fault(-1)", x.fault(-1), BAD);
        due("fault(MOST)", x.fault(MOST), BAD);
        WarmFloor y = still();
        y.person(0, 210, 220);
        y.dial(HEATER, 5, 0);
        habits(y, 0, "k1:0+;");
        due("with a fault they have no habits", y.all(0, 0), 0);
        habits(y, 0, "k1:0-");
        due("whole again", y.all(0, 0), 40);
    }

    private static void dials() {
        promise = 11;
        WarmFloor x = new WarmFloor();
        int[][] bad = {{-1, 0, 0}, {6, 0, 0}, {0, -1, 100}, {0, 24, 100}, {0, 0, 99}, {0, 0, 301}, {0, 0, 0}, {1, 0, 2}, {1, 0, -1},
            {2, 0, 2}, {3, 0, -1}, {4, 0, 100}, {5, 0, 2}, {5, 24, 0}, {MOST, 0, 0}, {0, 0, MOST}, {1, LEAST, 0}};
        for (int[] b : bad) {
            due("dial(" + b[0] + ", " + b[1] + ", " + b[2] + ")", x.dial(b[0], b[1], b[2]), BAD);
        }
        due("count(1)", x.count(1), 0);
        due("dial(0, 0, 100)", x.dial(0, 0, 100), 0);
        due("dial(0, 23, 300)", x.dial(0, 23, 300), 1);
        for (int kind = 1; kind <= 5; kind++) {
            due("dial(" + kind + ")", x.dial(kind, 1, kind % 2), kind + 1);
        }
        due("dial 7", x.dial(1, 0, 1), 7);
        due("dial, FULL", x.dial(1, 0, 1), FULL);
        due("dial, BAD ahead of FULL", x.dial(1, 0, 2), BAD);
        due("count(1)", x.count(1), 8);
        due("FEELER at first", x.tune(1, 0, 0), 23);
        due("GRILLES at first", x.tune(1, 1, 1), 0x3f << 18);
        due("GRILLES of the first row", x.tune(0, 1, 1), 0x3f);
        due("number at first", x.tune(1, 2, 100), 300);
    }

    private static void tunes() {
        promise = 12;
        WarmFloor x = new WarmFloor();
        due("tune(0, 2, 1) of none", x.tune(0, 2, 1), BAD);
        x.dial(REAL, 8, 205);
        x.dial(WINDOW, 0, 1);
        due("tune(0, 0, 23)", x.tune(0, 0, 23), 8);
        due("tune(0, 0, 0)", x.tune(0, 0, 0), 23);
        due("tune(0, 0, 24)", x.tune(0, 0, 24), BAD);
        due("tune(0, 0, -1)", x.tune(0, 0, -1), BAD);
        due("tune(0, 1, 0xffffff)", x.tune(0, 1, 0xffffff), 0x3f << 6);
        due("tune(0, 1, 1)", x.tune(0, 1, 1), 0xffffff);
        due("tune(0, 1, 0)", x.tune(0, 1, 0), BAD);
        due("tune(0, 1, -1)", x.tune(0, 1, -1), BAD);
        due("tune(0, 1, 1 << 24)", x.tune(0, 1, 1 << 24), BAD);
        due("tune(0, 1, 1 << 24 | 1)", x.tune(0, 1, 1 << 24 | 1), BAD);
        due("tune(0, 2, 100)", x.tune(0, 2, 100), 205);
        due("tune(0, 2, 300)", x.tune(0, 2, 300), 100);
        due("tune(0, 2, 99)", x.tune(0, 2, 99), BAD);
        due("tune(0, 2, 301)", x.tune(0, 2, 301), BAD);
        due("tune(0, 3, 100)", x.tune(0, 3, 100), BAD);
        due("tune(0, 3, 5)", x.tune(0, 3, 5), BAD);
        due("tune(0, -1, 100)", x.tune(0, -1, 100), BAD);
        due("tune(1, 0, 0): no FEELER", x.tune(1, 0, 0), BAD);
        due("tune(1, 1, 1): no GRILLES", x.tune(1, 1, 1), BAD);
        due("tune(1, 2, 0)", x.tune(1, 2, 0), 1);
        due("tune(1, 2, 1)", x.tune(1, 2, 1), 0);
        due("tune(1, 2, 2)", x.tune(1, 2, 2), BAD);
        due("tune(2, 2, 1)", x.tune(2, 2, 1), BAD);
        due("tune(-1, 2, 1)", x.tune(-1, 2, 1), BAD);
        due("the last FEELER", x.tune(0, 0, 1), 0);
        due("the last GRILLES", x.tune(0, 1, 2), 1);
        due("the last number", x.tune(0, 2, 200), 300);
    }

    private static void flows() {
        promise = 13;
        WarmFloor x = new WarmFloor();
        x.cell(0, 0, 255);
        // 55 * 10 / 100 = 5 to each of two, 55 * 5 / 100 = 2 to the stone.
        due("cell 0", x.warmth(1, 0, 0), 255 - 5 - 5 - 2);
        due("cell 1", x.warmth(1, 1, 0), 205);
        due("cell 6", x.warmth(1, 6, 0), 205);
        due("stone 0", x.warmth(1, 0, 1), 202);
        // Then 38 to each neighbour: 3; 41 to the stone: 2; from cell 1 to the others 5 * 10 / 100 = 0.
        due("cell 0 behind two", x.warmth(2, 0, 0), 243 - 3 - 3 - 2);
        due("stone 0 behind two", x.warmth(2, 0, 1), 204);
        due("cell 1 behind two", x.warmth(2, 1, 0), 208);
        WarmFloor y = still();
        y.set(2, 20);
        y.cell(4, 1, 304);
        // 104 * 20 / 100 = 20 from the stone.
        due("warmed by its stone", y.warmth(1, 4, 0), 220);
        due("the stone then", y.warmth(1, 4, 1), 284);
        y.cell(4, 1, 199);
        due("less than one is cut", y.warmth(1, 4, 0), 200);
        due("the stone stays", y.warmth(40, 4, 1), 199);
        int[][] bad = {{-1, 0, 0}, {41, 0, 0}, {0, -1, 0}, {0, 24, 0}, {0, 0, -1}, {0, 0, 2}, {LEAST, 0, 0}, {MOST, 0, 0}, {0, MOST, 0}};
        for (int[] b : bad) {
            due("warmth(" + b[0] + ", " + b[1] + ", " + b[2] + ")", x.warmth(b[0], b[1], b[2]), BAD);
        }
        due("warmth(40, 23, 1)", x.warmth(40, 23, 1), 200);
        WarmFloor hot = still();
        for (int i = 0; i < 8; i++) {
            hot.dial(HEATER, 0, 1);
        }
        due("120 more", hot.warmth(3, 0, 0), 560);
        due("600 at most", hot.warmth(4, 0, 0), 600);
        due("600 at most, later", hot.warmth(40, 0, 0), 600);
        WarmFloor cool = still();
        cool.dial(FAN, 0, 1);
        due("10 less", cool.warmth(19, 0, 0), 10);
        due("0 at least", cool.warmth(20, 0, 0), 0);
        due("0 at least, later", cool.warmth(40, 0, 0), 0);
        due("the next one goes on", cool.warmth(40, 1, 0), 600);
    }

    private static void realDials() {
        promise = 13;
        WarmFloor x = still();
        x.set(3, 7);
        x.dial(REAL, 8, 214);
        due("gives to its row", x.warmth(1, 6, 0), 207);
        due("gives to its row's end", x.warmth(1, 11, 0), 207);
        due("not to another row", x.warmth(1, 5, 0), 200);
        due("not to the row below", x.warmth(1, 12, 0), 200);
        due("at its number it rests", x.warmth(3, 8, 0), 214);
        due("cost of two STEPS", x.run(0), 12);
        x.dial(SHUT, 6, 1);
        x.dial(SHUT, 6, 1);
        x.dial(SHUT, 7, 0);
        due("half of 7, once", x.warmth(1, 6, 0), 203);
        due("a SHUT that is off", x.warmth(1, 7, 0), 207);
        x.tune(0, 2, 186);
        due("takes half", x.warmth(1, 6, 0), 197);
        due("takes", x.warmth(1, 7, 0), 193);
        x.tune(0, 2, 188);
        due("goes over", x.warmth(2, 8, 0), 186);
        due("and back", x.warmth(3, 8, 0), 193);
        due("cost of each STEP", x.run(0), 240);
        x.tune(0, 1, 1 << 23 | 1);
        x.tune(0, 0, 23);
        x.set(3, 12);
        due("GRILLES elsewhere", x.warmth(1, 23, 0), 188);
        due("GRILLES elsewhere too", x.warmth(1, 0, 0), 188);
        due("not its own row", x.warmth(1, 8, 0), 200);
        due("cost of one STEP with two GRILLES", x.run(0), 2);
        x.set(3, 0);
        due("without POWER nothing is given", x.warmth(40, 23, 0), 200);
        due("without POWER it costs too", x.run(0), 80);
    }

    private static void windowsAndFans() {
        promise = 13;
        WarmFloor x = still();
        x.set(0, 151);
        x.dial(WINDOW, 9, 1);
        // 49 / 5 = 9.
        due("goes out", x.warmth(1, 9, 0), 191);
        x.set(0, 253);
        due("comes in", x.warmth(1, 9, 0), 210);
        x.set(0, 196);
        due("too little", x.warmth(40, 9, 0), 200);
        x.set(0, -200);
        x.cell(9, 0, 0);
        due("0 at least", x.warmth(1, 9, 0), 0);
        x.tune(0, 2, 0);
        x.cell(9, 0, 200);
        due("a WINDOW that is off", x.warmth(40, 9, 0), 200);
        x.tune(0, 2, 1);
        x.dial(WINDOW, 9, 1);
        due("two WINDOWS", x.warmth(1, 9, 0), 40);
        due("WINDOWS cost nothing", x.run(0), 0);
        WarmFloor y = still();
        y.dial(FAN, 7, 1);
        y.dial(FAN, 17, 1);
        y.dial(FAN, 2, 0);
        y.wall(7, 8, true);
        due("from 7", y.warmth(1, 7, 0), 190);
        due("to 8, over a WALL", y.warmth(1, 8, 0), 210);
        due("from the last one", y.warmth(1, 17, 0), 190);
        due("to the one ahead", y.warmth(1, 16, 0), 210);
        due("not to the next row", y.warmth(1, 18, 0), 200);
        due("not to the row's first", y.warmth(1, 12, 0), 200);
        due("a FAN that is off", y.warmth(1, 3, 0), 200);
        due("COST of two FANS", y.run(0), 80);
    }

    private static void numbers() {
        promise = 14;
        WarmFloor x = still();
        x.person(0, 300, 300);
        x.dial(REAL, 23, 285);
        x.tune(0, 1, 1 << 23);
        habits(x, 0, "k0:0+");
        due("number(0, 0)", x.number(0, 0), 295);
        due("number(1, 0): 305 is too much", x.number(1, 0), 295);
        due("number(39, 0)", x.number(39, 0), 295);
        due("acts", x.all(0, 0), 1);
        x.tune(0, 2, 290);
        due("300 is not", x.number(0, 0), 300);
        x.wipe(0);
        habits(x, 0, "k0:0-");
        due("number(18, 0)", x.number(18, 0), 100);
        due("number(39, 0), 100 at least", x.number(39, 0), 100);
        due("number(17, 0)", x.number(17, 0), 110);
        x.tune(0, 2, 109);
        due("99 is too little", x.number(39, 0), 109);
        int[][] bad = {{-1, 0}, {40, 0}, {0, -1}, {0, 1}, {MOST, 0}, {0, LEAST}};
        for (int[] b : bad) {
            due("number(" + b[0] + ", " + b[1] + ")", x.number(b[0], b[1]), BAD);
        }
        WarmFloor y = still();
        y.dial(WINDOW, 0, 1);
        due("number of one that nobody presses", y.number(39, 0), 1);
    }

    private static void habitsInSteps() {
        promise = 15;
        WarmFloor x = still();
        x.person(0, 205, 210);
        x.dial(WINDOW, 23, 0);
        habits(x, 0, "k6:0+");
        due("5 is less than 6", x.all(0, 0), 0);
        x.wipe(0);
        habits(x, 0, "k5:0+");
        due("5 is enough", x.all(0, 0), 1);
        x.cell(0, 0, 193);
        x.wipe(0);
        habits(x, 0, "k12:0+");
        due("12 is enough", x.all(0, 0), 1);
        x.wipe(0);
        habits(x, 0, "k013:0+");
        due("12 is less than 13", x.all(0, 0), 0);
        x.cell(0, 0, 200);
        x.wipe(0);
        habits(x, 0, "w0:0+");
        due("not WARM at all", x.all(0, 0), 0);
        x.cell(0, 0, 210);
        due("at most, and not WARM", x.all(0, 0), 0);
        x.cell(0, 0, 211);
        due("WARM by 1", x.all(0, 0), 1);
        x.wipe(0);
        habits(x, 0, "k0:0+");
        x.cell(0, 0, 205);
        due("at least, and not COLD", x.all(0, 0), 0);
        x.cell(0, 0, 204);
        due("COLD by 1", x.all(0, 0), 1);
        x.wipe(0);
        habits(x, 0, "k0:1+;k0:0-;k0:7+;k0:0+");
        due("no such DIAL, off already, on", x.number(0, 0), 1);
        due("on, off, on, ..", x.all(0, 0), 40);
        due("then off", x.number(1, 0), 0);
        WarmFloor y = still();
        y.set(5, 2);
        y.person(0, 300, 300);
        y.person(1, 300, 300);
        y.dial(FALSE, 0, 0);
        y.dial(FALSE, 0, 0);
        habits(y, 0, "k0:0+;k0:0-;k0:1+;k0:1-");
        habits(y, 1, "k0:0+;k0:0-");
        due("two TRIES with each", y.all(0, 0), 4);
        due("two TRIES of the other one too", y.all(1, 0), 2);
        due("turned on by one, off by the other", y.number(0, 0), 0);
        due("behind all", y.number(39, 0), 0);
        WarmFloor z = still();
        z.person(0, 300, 300);
        z.person(1, 300, 300);
        z.dial(SHUT, 0, 0);
        habits(z, 0, "k0:0+");
        habits(z, 1, "k0:0+");
        due("the first one turns it on", z.did(0, 0, 0), 1);
        due("the second finds it on", z.did(0, 1, 0), 0);
        z.wipe(1);
        habits(z, 1, "k0:0-");
        due("both act in each STEP", z.all(0, 0) + z.all(1, 0), 80);
        z.wipe(0);
        habits(z, 0, "k101:0+");
        due("COLD by 100, not by 101", z.all(0, 0), 0);
    }

    private static void dids() {
        promise = 15;
        WarmFloor x = still();
        x.person(0, 210, 220);
        x.person(1, 251, 260);
        x.person(2, 100, 160);
        x.person(3, 150, 195);
        x.dial(HEATER, 0, 0);
        habits(x, 0, "k5:0+;w0:0-");
        due("did(0, 0, 0)", x.did(0, 0, 0), 1);
        due("did(0, 0, 1): 215, and TOUCH", x.did(0, 0, 1), 105);
        due("did(1, 0, 0)", x.did(1, 0, 0), 0);
        due("did(1, 0, 1): 230", x.did(1, 0, 1), 80);
        due("did(2, 0, 0)", x.did(2, 0, 0), 1);
        due("did(2, 0, 1): 230, and TOUCH", x.did(2, 0, 1), 85);
        due("did(39, 0, 1)", x.did(39, 0, 1), 80);
        due("did(0, 1, 1): 51 outside", x.did(0, 1, 1), 0);
        due("did(0, 2, 1): 40 outside", x.did(0, 2, 1), 20);
        due("did(0, 3, 1): 5 outside", x.did(0, 3, 1), 90);
        due("did(0, 1, 0)", x.did(0, 1, 0), 0);
        int[][] bad = {{-1, 0, 0}, {40, 0, 0}, {0, -1, 0}, {0, 4, 0}, {0, 0, -1}, {0, 0, 2}, {MOST, 0, 0}, {0, LEAST, 0}};
        for (int[] b : bad) {
            due("did(" + b[0] + ", " + b[1] + ", " + b[2] + ")", x.did(b[0], b[1], b[2]), BAD);
        }
    }

    private static void alls() {
        promise = 16;
        WarmFloor x = still();
        x.person(0, 210, 220);
        x.dial(HEATER, 0, 0);
        habits(x, 0, "k5:0+;w0:0-");
        due("all(0, 0)", x.all(0, 0), 2);
        due("all(0, 1)", x.all(0, 1), 105 + 80 + 85 + 37 * 80);
        due("all(0, 2)", x.all(0, 2), BAD);
        due("all(0, -1)", x.all(0, -1), BAD);
        due("all(1, 0)", x.all(1, 0), BAD);
        due("all(-1, 0)", x.all(-1, 0), BAD);
        x.set(4, 20);
        due("all(0, 1) with more TOUCH", x.all(0, 1), 105 + 80 + 85 + 37 * 80 + 30);
    }

    private static void runs() {
        promise = 17;
        WarmFloor x = still();
        x.person(0, 210, 220);
        x.person(5, 200, 200);
        x.dial(HEATER, 0, 0);
        habits(x, 0, "k5:0+;w0:0-");
        due("run(0): a HEATER for two STEPS", x.run(0), 4);
        due("run(1)", x.run(1), 105 + 80 + 85 + 37 * 80 + 4000);
        due("run(2)", x.run(2), BAD);
        due("run(-1)", x.run(-1), BAD);
        x.dial(FAN, 12, 1);
        x.dial(SHUT, 13, 1);
        x.dial(FALSE, 13, 1);
        x.dial(WINDOW, 13, 1);
        due("run(0) with a FAN", x.run(0), 44);
        x.dial(REAL, 20, 200);
        due("run(0) with a REAL one at its number", x.run(0), 44);
        x.tune(5, 2, 300);
        x.tune(5, 1, 7 << 12);
        due("run(0) with one that is not", x.run(0), 44 + 120);
    }

    private static void harms() {
        promise = 18;
        WarmFloor x = still();
        x.person(0, 300, 300);
        x.person(0, 200, 205);
        x.person(1, 200, 205);
        x.dial(HEATER, 0, 0);
        habits(x, 0, "k0:0+");
        // 215 in STEP 0: 20 less; 230: 50 less; 245: 80 less; then nothing is left.
        due("harm(0, 1)", x.harm(0, 1), 20 + 50 + 80 + 37 * 100);
        due("harm(0, 2)", x.harm(0, 2), 0);
        due("harm(1, 0)", x.harm(1, 0), 0);
        x.person(0, 215, 260);
        due("harm(0, 3): it is of use", x.harm(0, 3), 40 * 70 - (4 * 100 + 70 + 40 + 10));
        int[][] bad = {{0, 0}, {3, 3}, {4, 0}, {0, 4}, {-1, 0}, {0, -1}, {4, 4}, {MOST, 0}};
        for (int[] b : bad) {
            due("harm(" + b[0] + ", " + b[1] + ")", x.harm(b[0], b[1]), BAD);
        }
        due("all is as before", x.all(0, 0), 1);
    }

    private static void fights() {
        promise = 19;
        WarmFloor x = still();
        x.dial(HEATER, 7, 1);
        x.dial(FAN, 7, 1);
        x.dial(FAN, 6, 1);
        x.dial(WINDOW, 6, 1);
        x.dial(SHUT, 7, 1);
        x.dial(FALSE, 7, 1);
        due("HEATER and FAN in one CELL", x.fight(0, 1), 40);
        due("the same, turned", x.fight(1, 0), 40);
        due("HEATER and the FAN beside it", x.fight(0, 2), 0);
        due("both FANS: one gives where the other takes", x.fight(1, 2), 40);
        // CELL 6 has 200, 170, 146, 127, 112, 100: then it is colder than OUT, and the WINDOW gives.
        due("both take from it", x.fight(2, 3), 34);
        due("SHUT", x.fight(0, 4), 0);
        due("FALSE", x.fight(1, 5), 0);
        int[][] bad = {{0, 0}, {6, 0}, {0, 6}, {-1, 0}, {0, -1}, {6, 6}, {MOST, 0}, {0, LEAST}};
        for (int[] b : bad) {
            due("fight(" + b[0] + ", " + b[1] + ")", x.fight(b[0], b[1]), BAD);
        }
        WarmFloor y = still();
        y.set(3, 1);
        y.dial(REAL, 0, 205);
        y.dial(FAN, 1, 1);
        y.dial(SHUT, 1, 0);
        y.tune(0, 1, 3);
        due("gives for five STEPS", y.fight(0, 1), 5);
        due("gives by 1, the other one first", y.fight(1, 0), 5);
        y.tune(2, 2, 1);
        due("half of 1 is nothing", y.fight(0, 1), 0);
        y.set(3, 2);
        due("half of 2 is 1; 202, 204, 206, then it takes", y.fight(0, 1), 21);
        WarmFloor z = still();
        z.dial(WINDOW, 0, 1);
        z.dial(FAN, 0, 1);
        z.set(0, 204);
        due("less than 5 colder", z.fight(0, 1), 39);
        z.set(0, 400);
        due("OUT is warmer", z.fight(0, 1), 40);
        z.tune(0, 2, 0);
        due("a WINDOW that is off", z.fight(0, 1), 0);
    }

    private static void leadings() {
        promise = 20;
        WarmFloor x = still();
        x.person(0, 300, 300);
        x.person(1, 300, 300);
        x.person(2, 300, 300);
        x.dial(SHUT, 0, 0);
        habits(x, 0, "k0:0+");
        habits(x, 1, "k0:0-");
        // Both in each STEP; without the first, the second never acts; without the second, the first acts once.
        due("leads(0, 1)", x.leads(0, 1), 1);
        due("leads(1, 0)", x.leads(1, 0), 1);
        due("leads(0, 2)", x.leads(0, 2), 0);
        due("leads(2, 0)", x.leads(2, 0), 0);
        int[][] bad = {{0, 0}, {3, 0}, {0, 3}, {-1, 0}, {0, -1}, {3, 3}, {MOST, LEAST}};
        for (int[] b : bad) {
            due("leads(" + b[0] + ", " + b[1] + ")", x.leads(b[0], b[1]), BAD);
        }
    }

    private static void rings() {
        promise = 21;
        WarmFloor x = still();
        for (int i = 0; i < 5; i++) {
            x.person(i, 300, 300);
        }
        due("ring() of none", x.ring(), 0);
        x.dial(SHUT, 0, 0);
        habits(x, 1, "k0:0+");
        habits(x, 3, "k0:0-");
        due("two that lead one another", x.ring(), 1 << 1 | 1 << 3);
        x.dial(SHUT, 0, 0);
        habits(x, 0, "k0:1+");
        habits(x, 2, "k0:1-");
        due("two rings", x.ring(), 1 | 1 << 1 | 1 << 2 | 1 << 3);
        x.wipe(3);
        due("one ring is left", x.ring(), 1 | 1 << 2);
        WarmFloor y = still();
        y.person(0, 300, 300);
        y.person(1, 300, 300);
        y.dial(SHUT, 0, 0);
        habits(y, 0, "k0:0+");
        habits(y, 1, "k0:0+");
        due("the first leads the second", y.leads(0, 1), 1);
        due("but not back", y.leads(1, 0), 0);
        due("no ring", y.ring(), 0);
    }

    private static void bestSettings() {
        promise = 22;
        WarmFloor x = still();
        due("best(10000, 0)", x.best(10000, 0), BAD);
        due("best(-1, 0)", x.best(-1, 0), BAD);
        due("best(0, 3)", x.best(0, 3), BAD);
        due("best(0, -1)", x.best(0, -1), BAD);
        due("best(0, 0): no REAL one", x.best(0, 0), NOT);
        x.dial(HEATER, 23, 0);
        due("best(9999, 2): still none", x.best(9999, 2), NOT);
        x.person(0, 220, 225);
        x.dial(REAL, 0, 300);
        x.tune(1, 1, 1);
        // To 220 by two STEPS: 80, then 100 each.
        due("best(2, 0)", x.best(2, 0), 220);
        due("best(2, 1): there is one", x.best(2, 1), NONE);
        due("best(2, 2)", x.best(2, 2), 80 + 39 * 100);
        due("best(1, 0)", x.best(1, 0), 210);
        due("best(1, 2)", x.best(1, 2), 40 * 80);
        due("best(0, 0)", x.best(0, 0), 200);
        due("best(0, 2)", x.best(0, 2), 40 * 60);
        x.tune(0, 2, 1);
        due("best(79, 0): the HEATER costs 80", x.best(79, 0), NONE);
        due("best(79, 1)", x.best(79, 1), NONE);
        due("best(79, 2)", x.best(79, 2), NONE);
        due("best(80, 0)", x.best(80, 0), 200);
        x.tune(0, 2, 0);
        x.dial(REAL, 5, 300);
        x.tune(2, 1, 1 << 5);
        due("best(9999, 0) of two", x.best(9999, 0), 220);
        due("best(9999, 1): of like ones the least", x.best(9999, 1), 180);
        due("best(2, 1): the second at rest", x.best(2, 1), 200);
        due("best(3, 1): it takes one STEP", x.best(3, 1), 190);
        x.dial(REAL, 6, 300);
        x.tune(3, 1, 1 << 6);
        due("best(11, 0): a third one is as it is", x.best(11, 0), 210);
        due("the DIAL is as before", x.tune(1, 2, 300), 300);
        WarmFloor y = still();
        y.dial(REAL, 0, 300);
        due("nobody: the least", y.best(9999, 0), 180);
        due("nobody: no POINTS", y.best(9999, 2), 0);
    }

    private static void bestSeats() {
        promise = 23;
        WarmFloor x = still();
        due("seats(NONE) of nobody", x.seats(NONE), 0);
        due("seats(0) of nobody", x.seats(0), BAD);
        x.cell(0, 0, 220);
        x.cell(1, 0, 240);
        x.cell(2, 0, 260);
        x.person(0, 240, 240);
        x.person(1, 260, 260);
        x.person(2, 220, 220);
        due("seats(NONE)", x.seats(NONE), 12000);
        due("seats(0)", x.seats(0), 2);
        due("seats(1)", x.seats(1), 0);
        due("seats(2)", x.seats(2), 1);
        due("seats(3)", x.seats(3), BAD);
        due("seats(-2)", x.seats(-2), BAD);
        due("seats(MOST)", x.seats(MOST), BAD);
        due("they sit as before", x.seat(0, 0), 0);
        x.person(3, 0, 400);
        x.person(3, 0, 400);
        due("of like ones the least: seat 3", x.seats(3), 3);
        due("of like ones the least: seat 4", x.seats(4), 4);
        due("seats(NONE) of five", x.seats(NONE), 20000);
        x.person(3, 0, 400);
        due("six: FULL", x.seats(0), FULL);
        due("six: FULL, POINTS too", x.seats(NONE), FULL);
        due("six: BAD first", x.seats(6), BAD);
        due("six: BAD first, below", x.seats(-2), BAD);
    }

    private static void feels() {
        promise = 24;
        WarmFloor x = still();
        due("feel(0) of none", x.feel(0), BAD);
        x.dial(REAL, 0, 220);
        x.dial(FAN, 0, 0);
        due("feel(1): not REAL", x.feel(1), BAD);
        due("feel(-1)", x.feel(-1), BAD);
        due("feel(2)", x.feel(2), BAD);
        due("nobody: the least", x.feel(0), 0);
        x.tune(0, 1, 1 << 9);
        x.person(9, 220, 220);
        due("where it is felt", x.feel(0), 9);
        x.seat(0, 10);
        due("of no use: the least", x.feel(0), 0);
        x.seat(0, 9);
        x.cell(4, 0, 220);
        x.cell(9, 0, 220);
        due("of like ones the least", x.feel(0), 4);
        due("the FEELER is as before", x.tune(0, 0, 0), 0);
    }

    private static void worths() {
        promise = 25;
        WarmFloor x = still();
        due("worth(0) of none", x.worth(0), BAD);
        x.person(0, 210, 400);
        x.dial(HEATER, 0, 1);
        x.dial(FALSE, 3, 0);
        // 215 to 395, then 410, 425, 440, then nothing is left; without it 80 each.
        due("worth of a HEATER", x.worth(0), 13 * 100 + 80 + 50 + 20 - 40 * 80);
        due("worth of what nobody presses", x.worth(1), 0);
        due("worth(2)", x.worth(2), BAD);
        due("worth(-1)", x.worth(-1), BAD);
        x.tune(0, 2, 0);
        habits(x, 0, "k0:1+;k0:1-");
        due("a FALSE one is worth three TOUCHES", x.worth(1), 15);
        x.wipe(0);
        habits(x, 0, "k0:1+;k0:0+");
        // In STEP 0 the FALSE one, and all that the HEATER does comes a STEP later; of its last one nothing is left.
        due("worth of the FALSE one then", x.worth(1), 80 + 5);
        WarmFloor y = still();
        y.person(0, 200, 201);
        y.dial(REAL, 0, 201);
        y.tune(0, 1, 1);
        y.dial(SHUT, 0, 1);
        // 205, 200 by turns with the card, 210, 200 without.
        due("worth of a SHUT", y.worth(1), 20 * (18 - 8));
        WarmFloor z = still();
        z.person(0, 200, 201);
        z.dial(SHUT, 0, 1);
        z.dial(REAL, 0, 201);
        z.tune(1, 1, 1);
        due("worth of a SHUT ahead of the REAL one", z.worth(0), 20 * (18 - 8));
    }

    private static void votes() {
        promise = 26;
        WarmFloor x = new WarmFloor();
        x.dial(REAL, 0, 200);
        x.dial(FAN, 0, 1);
        due("vote of nobody without a SHEET", x.vote(0, 0, 0), NULL);
        x.sheet(0, 0, 0);
        due("vote of nobody", x.vote(0, 0, 0), 200);
        due("vote of nobody, the middle one", x.vote(0, 0, 1), 200);
        for (int i = 0; i < 4; i++) {
            x.person(i, 200, 200);
        }
        due("too few items", x.vote(0, 0, 0), NOT);
        sheetOf(x, 1, 2, 1, -1, 1, -1);
        due("sum 0", x.vote(1, 0, 0), 200);
        due("the lesser of -1 and 1", x.vote(1, 0, 1), 190);
        sheetOf(x, 1, 2, 1, 1, 0, 0);
        due("sum 2", x.vote(1, 0, 0), 210);
        due("the lesser of 0 and 1", x.vote(1, 0, 1), 200);
        sheetOf(x, 1, 1, 1, 1, 1, -1);
        due("1 in the middle", x.vote(1, 0, 1), 210);
        sheetOf(x, 1, 0, -1, 0, 0, 0);
        due("sum -1", x.vote(1, 0, 0), 190);
        due("0 in the middle", x.vote(1, 0, 1), 200);
        x.tune(0, 2, 105);
        due("95 cannot be", x.vote(1, 0, 0), 105);
        x.tune(0, 2, 110);
        due("100 can be", x.vote(1, 0, 0), 100);
        sheetOf(x, 1, 0, 1, 0, 0, 0);
        x.tune(0, 2, 300);
        due("310 cannot be", x.vote(1, 0, 0), 300);
        due("it is only told", x.tune(0, 2, 200), 300);
        sheetOf(x, 1, 0, 1, 0, 0, 2);
        due("another than told", x.vote(1, 0, 0), NOT);
        sheetOf(x, 1, 0, -2, 0, 0, 1);
        due("another than told, below", x.vote(1, 0, 1), NOT);
        sheetOf(x, 1, 0, 1, 0, 0, 0, 0);
        due("too many items", x.vote(1, 0, 0), NOT);
        int[][] bad = {{-1, 0, 0}, {4, 0, 0}, {1, -1, 0}, {1, 1, 0}, {1, 2, 0}, {1, 0, -1}, {1, 0, 2}, {3, 0, 2}, {3, 1, 0}, {MOST, 0, 0}};
        for (int[] b : bad) {
            due("vote(" + b[0] + ", " + b[1] + ", " + b[2] + ")", x.vote(b[0], b[1], b[2]), BAD);
        }
        due("vote by a LOST one", x.vote(3, 0, 0), NULL);
    }

    private static void gains() {
        promise = 27;
        WarmFloor x = still();
        x.dial(REAL, 0, 200);
        x.tune(0, 1, 1);
        x.person(0, 200, 200);
        x.person(0, 210, 210);
        x.person(0, 190, 190);
        sheetOf(x, 0, 0, 0, 0, 0);
        due("as it likes it", x.gain(0, 0, 0, 0), 0);
        due("it could have 210", x.gain(0, 0, 0, 1), 800);
        due("it could have 190", x.gain(0, 0, 0, 2), 800);
        due("not in the middle", x.gain(0, 0, 1, 1), 0);
        sheetOf(x, 0, 0, 0, 1, -1);
        due("all as they like", x.gain(0, 0, 0, 1), 0);
        sheetOf(x, 0, 0, 1, 1, -1);
        due("pressing otherwise than it did", x.gain(0, 0, 0, 0), 800);
        due("one against two: it can be 200", x.gain(0, 0, 0, 2), 0);
        due("the middle, by the first one", x.gain(0, 0, 1, 0), 800);
        int[][] bad = {{-1, 0, 0, 0}, {4, 0, 0, 0}, {0, 1, 0, 0}, {0, -1, 0, 0}, {0, 0, 2, 0}, {0, 0, -1, 0}, {0, 0, 0, 3}, {0, 0, 0, -1},
            {3, 0, 0, 3}, {3, 0, 2, 0}};
        for (int[] b : bad) {
            due("gain(" + b[0] + ", " + b[1] + ", " + b[2] + ", " + b[3] + ")", x.gain(b[0], b[1], b[2], b[3]), BAD);
        }
        due("gain by a LOST one", x.gain(3, 0, 0, 0), NULL);
        due("count(8)", x.count(8), 1);
        x.lay(0, 0, 0, 3);
        due("another than told", x.gain(0, 0, 0, 0), NOT);
        x.sheet(0, 0, 2);
        due("too few", x.gain(0, 0, 0, 0), NOT);
        due("the number is as before", x.tune(0, 2, 200), 200);
    }

    private static void mondays() {
        promise = 28;
        WarmFloor x = still();
        due("monday(0, ..) of none", x.monday(0, 0, 0, 1), BAD);
        x.dial(REAL, 0, 250);
        due("250 by 10 takes five", x.monday(0, 0, 250, 40), 35);
        due("241 takes five too", x.monday(0, 0, 241, 40), 35);
        due("240 takes four", x.monday(0, 0, 240, 40), 36);
        due("from 0 on", x.monday(0, 0, 250, 5), 0);
        due("no time", x.monday(0, 0, 250, 4), NONE);
        due("no more than that", x.monday(0, 0, 251, 40), NONE);
        due("it is so already", x.monday(0, 0, 200, 40), 40);
        due("a CELL without GRILLES", x.monday(0, 6, 201, 40), NONE);
        due("monday(0, 0, 0, 1)", x.monday(0, 0, 0, 1), 1);
        due("monday(0, 23, 600, 40)", x.monday(0, 23, 600, 40), NONE);
        x.dial(FAN, 6, 1);
        x.person(0, 300, 300);
        habits(x, 0, "k0:0+;k0:1-");
        due("nobody does anything", x.monday(0, 0, 251, 40), NONE);
        for (int i = 1; i < 6; i++) {
            x.person(0, 300, 300);
            habits(x, i, "k0:0+;k0:1-");
        }
        due("nobody of six does anything", x.monday(0, 0, 251, 40), NONE);
        due("others go on", x.monday(0, 7, 600, 40), 40);
        due("not soon enough", x.monday(0, 7, 600, 39), NONE);
        int[][] bad = {{-1, 0, 0, 1}, {1, 0, 0, 1}, {2, 0, 0, 1}, {0, -1, 0, 1}, {0, 24, 0, 1}, {0, 0, -1, 1}, {0, 0, 601, 1}, {0, 0, 0, 0},
            {0, 0, 0, 41}, {0, 0, 0, LEAST}, {0, 0, 0, MOST}};
        for (int[] b : bad) {
            due("monday(" + b[0] + ", " + b[1] + ", " + b[2] + ", " + b[3] + ")", x.monday(b[0], b[1], b[2], b[3]), BAD);
        }
        WarmFloor y = still();
        y.cell(0, 0, 215);
        y.dial(REAL, 0, 210);
        // It cools: whoever begins it late keeps the warmth.
        due("what cools had best begin last", y.monday(0, 0, 211, 3), 3);
        y.dial(HEATER, 1, 1);
        y.tune(0, 0, 1);
        y.tune(0, 2, 300);
        y.tune(0, 1, 1);
        // The FEELER has 200, 215, .. 290, 305 at STEP 7: then it takes from CELL 0.
        due("as long as it gives", y.monday(0, 0, 235, 7), 5);
    }

    private static void span(String name, WarmFloor x, int a, int b, int c, int d) {
        due(name + ", 0", x.span(0, 0), a);
        due(name + ", 1", x.span(0, 1), b);
        due(name + ", 2", x.span(0, 2), c);
        due(name + ", 3", x.span(0, 3), d);
    }

    private static void spans() {
        promise = 29;
        WarmFloor x = new WarmFloor();
        due("span(0, 0) of a LOST one", x.span(0, 0), NULL);
        due("span(0, 4)", x.span(0, 4), BAD);
        due("span(0, -1)", x.span(0, -1), BAD);
        due("span(4, 0)", x.span(4, 0), BAD);
        due("span(-1, 0)", x.span(-1, 0), BAD);
        x.sheet(0, 2, 0);
        span("nothing known", x, 0, 400, 0, 400);
        sheetOf(x, 0, 2, 200, 0);
        span("nothing done at 200", x, 0, 200, 200, 400);
        sheetOf(x, 0, 2, 200, -1);
        span("COLD at 200", x, 201, 400, 201, 400);
        sheetOf(x, 0, 2, 200, 1);
        span("WARM at 200", x, 0, 199, 0, 199);
        sheetOf(x, 0, 2, 200, -1, 205, 1);
        span("both", x, 201, 204, 201, 204);
        sheetOf(x, 0, 2, 200, -1, 201, 1);
        span("no room between", x, NOT, NOT, NOT, NOT);
        sheetOf(x, 0, 2, 200, -1, 202, 1);
        span("one warmth", x, 201, 201, 201, 201);
        sheetOf(x, 0, 2, 400, -1);
        span("COLD at 400", x, NOT, NOT, NOT, NOT);
        sheetOf(x, 0, 2, 0, 1);
        span("WARM at 0", x, NOT, NOT, NOT, NOT);
        sheetOf(x, 0, 2, 0, -1, 400, 1);
        span("both ends", x, 1, 399, 1, 399);
        sheetOf(x, 0, 2, 0, 0, 400, 0);
        span("the whole span", x, 0, 0, 400, 400);
        sheetOf(x, 0, 2, 399, -1);
        span("COLD at 399", x, 400, 400, 400, 400);
        sheetOf(x, 0, 2, 200, 0, 200, 1);
        span("both at 200", x, NOT, NOT, NOT, NOT);
        sheetOf(x, 0, 2, 200, 0, 200, -1);
        span("both at 200, COLD", x, NOT, NOT, NOT, NOT);
        int[][] not = {{200}, {200, 0, 200}, {401, 0}, {-1, 0}, {200, 2}, {200, -2}, {200, 0, 401, 0}};
        for (int[] n : not) {
            sheetOf(x, 0, 2, n);
            due("span by others than told", x.span(0, 0), NOT);
        }
        sheetOf(x, 0, 0, 100, -1, 120, 1);
        span("bytes", x, 101, 119, 101, 119);
    }

    private static void newSheets() {
        promise = 30;
        WarmFloor x = new WarmFloor();
        int[][] bad = {{-1, 0, 1}, {4, 0, 1}, {0, -1, 1}, {0, 3, 1}, {0, 0, 61}, {0, 0, MOST}, {4, 0, -1}, {0, 3, -1}};
        for (int[] b : bad) {
            due("sheet(" + b[0] + ", " + b[1] + ", " + b[2] + ")", x.sheet(b[0], b[1], b[2]), BAD);
        }
        due("count(8) behind BAD", x.count(8), 0);
        due("sheet(0, 0, -1)", x.sheet(0, 0, -1), SIZE);
        due("count(8)", x.count(8), 5);
        due("still LOST", x.lose(0), NULL);
        due("sheet(0, 0, LEAST)", x.sheet(0, 0, LEAST), SIZE);
        due("sheet(0, 2, 60)", x.sheet(0, 2, 60), 60);
        due("get(0, 2, 59)", x.get(0, 2, 59), 0);
        x.lay(0, 2, 3, 7);
        due("a refusal changes nothing", x.sheet(0, 2, -1), SIZE);
        due("get(0, 2, 3)", x.get(0, 2, 3), 7);
        due("sheet(0, 2, 4)", x.sheet(0, 2, 4), 4);
        due("a new row is 0", x.get(0, 2, 3), 0);
        due("sheet(3, 1, 0)", x.sheet(3, 1, 0), 0);
        due("get(3, 1, 0)", x.get(3, 1, 0), LEAST);
    }

    private static void losses() {
        promise = 31;
        WarmFloor x = new WarmFloor();
        due("lose(-1)", x.lose(-1), BAD);
        due("lose(4)", x.lose(4), BAD);
        due("lose(0)", x.lose(0), NULL);
        due("count(8)", x.count(8), 1);
        x.sheet(0, 1, 7);
        x.sheet(1, 1, 9);
        due("lose(0) of seven", x.lose(0), 7);
        due("lose(0) again", x.lose(0), NULL);
        due("get of a LOST one", x.get(0, 1, 0), LEAST);
        due("the other one is there", x.lose(1), 9);
    }

    private static void layings() {
        promise = 32;
        WarmFloor x = new WarmFloor();
        due("lay(0, 0, 0, 1), LOST", x.lay(0, 0, 0, 1), NULL);
        due("lay(0, 3, 0, 1)", x.lay(0, 3, 0, 1), BAD);
        due("lay(0, -1, 0, 1)", x.lay(0, -1, 0, 1), BAD);
        due("lay(4, 0, 0, 1)", x.lay(4, 0, 0, 1), BAD);
        due("lay(-1, 0, 0, 1)", x.lay(-1, 0, 0, 1), BAD);
        x.sheet(0, 0, 2);
        x.sheet(1, 1, 2);
        x.sheet(2, 2, 2);
        due("lay(0, 1, 9, 1): CAST first", x.lay(0, 1, 9, 1), CAST);
        due("count(8)", x.count(8), 3);
        due("lay(0, 0, 2, 1)", x.lay(0, 0, 2, 1), INDEX);
        due("count(8) then", x.count(8), 2);
        due("lay(0, 0, -1, 1)", x.lay(0, 0, -1, 1), INDEX);
        due("lay(0, 0, MOST, 1)", x.lay(0, 0, MOST, 1), INDEX);
        due("lay(0, 0, LEAST, 1)", x.lay(0, 0, LEAST, 1), INDEX);
        int[] laid = {127, 128, 255, 256, -129, 32768, 65535, 65536, MOST, LEAST};
        for (int v : laid) {
            due("lay a byte", x.lay(0, 0, 1, v), 1);
            due("a byte of " + v, x.get(0, 0, 1), (byte) v);
            due("lay a short", x.lay(1, 1, 1, v), 1);
            due("a short of " + v, x.get(1, 1, 1), (short) v);
            due("lay an int", x.lay(2, 2, 1, v), 1);
            due("an int of " + v, x.get(2, 2, 1), v);
        }
        due("the item ahead", x.get(2, 2, 0), 0);
    }

    private static void gettings() {
        promise = 33;
        WarmFloor x = new WarmFloor();
        due("get(4, 0, 0)", x.get(4, 0, 0), LEAST);
        due("get(-1, 0, 0)", x.get(-1, 0, 0), LEAST);
        due("get(0, 3, 0)", x.get(0, 3, 0), LEAST);
        due("get(0, -1, 0)", x.get(0, -1, 0), LEAST);
        due("BAD is no FINDING", x.count(8), 0);
        due("get(0, 0, 0), LOST", x.get(0, 0, 0), LEAST);
        due("count(8): NULL", x.count(8), 1);
        x.sheet(0, 1, 3);
        due("get(0, 0, 9)", x.get(0, 0, 9), LEAST);
        due("count(8): CAST", x.count(8), 3);
        due("get(0, 1, 3)", x.get(0, 1, 3), LEAST);
        due("count(8): INDEX", x.count(8), 2);
        due("get(0, 1, -1)", x.get(0, 1, -1), LEAST);
        x.lay(0, 1, 2, -5);
        due("get(0, 1, 2)", x.get(0, 1, 2), -5);
        due("count(8) stays", x.count(8), 2);
    }

    private static void copies() {
        promise = 34;
        WarmFloor x = new WarmFloor();
        sheetOf(x, 0, 2, 1, 2, 3, 4, 5);
        x.sheet(1, 2, 3);
        x.sheet(2, 1, 3);
        due("copy(0, 0, 3, 0, 0), LOST", x.copy(0, 0, 3, 0, 0), NULL);
        due("copy(3, 0, 0, 0, 0), LOST", x.copy(3, 0, 0, 0, 0), NULL);
        due("copy(3, -1, 2, 0, 99): NULL first", x.copy(3, -1, 2, 0, 99), NULL);
        due("copy(4, 0, 0, 0, 0)", x.copy(4, 0, 0, 0, 0), BAD);
        due("copy(0, 0, -1, 0, 0)", x.copy(0, 0, -1, 0, 0), BAD);
        due("copy(3, 0, 4, 0, 0): BAD first", x.copy(3, 0, 4, 0, 0), BAD);
        due("copy(0, 0, 2, 0, 0)", x.copy(0, 0, 2, 0, 0), STORE);
        due("count(8)", x.count(8), 4);
        due("copy(0, -1, 2, 0, 9): STORE first", x.copy(0, -1, 2, 0, 9), STORE);
        int[][] index = {{-1, 0, 1}, {0, -1, 1}, {0, 0, -1}, {0, 0, 4}, {3, 0, 3}, {0, 2, 2}, {6, 0, 0}, {0, 4, 0}, {MOST, 0, 1}, {0, MOST, 1},
            {1, 0, MOST}, {MOST, MOST, MOST}, {LEAST, 0, 1}, {0, 0, LEAST}};
        for (int[] b : index) {
            due("copy(0, " + b[0] + ", 1, " + b[1] + ", " + b[2] + ")", x.copy(0, b[0], 1, b[1], b[2]), INDEX);
        }
        due("nothing was changed", x.get(1, 2, 0), 0);
        due("copy(0, 5, 1, 3, 0)", x.copy(0, 5, 1, 3, 0), 1);
        due("copy(0, 2, 1, 0, 3)", x.copy(0, 2, 1, 0, 3), 1);
        due("first", x.get(1, 2, 0), 3);
        due("last", x.get(1, 2, 2), 5);
        due("copy(0, 0, 0, 1, 4): as they were", x.copy(0, 0, 0, 1, 4), 1);
        int[] up = {1, 1, 2, 3, 4};
        for (int i = 0; i < up.length; i++) {
            due("item " + i, x.get(0, 2, i), up[i]);
        }
        due("copy(0, 2, 0, 0, 3): downwards", x.copy(0, 2, 0, 0, 3), 1);
        int[] down = {2, 3, 4, 3, 4};
        for (int i = 0; i < down.length; i++) {
            due("item " + i + " then", x.get(0, 2, i), down[i]);
        }
    }

    private static void writes() {
        promise = 35;
        WarmFloor x = still();
        x.cell(0, 0, 400);
        x.dial(HEATER, 23, 1);
        due("write(0, 0), LOST", x.write(0, 0), NULL);
        due("write(41, 0)", x.write(41, 0), BAD);
        due("write(-1, 0)", x.write(-1, 0), BAD);
        due("write(0, 4)", x.write(0, 4), BAD);
        due("write(0, -1)", x.write(0, -1), BAD);
        x.sheet(0, 2, 60);
        x.lay(0, 2, 24, 77);
        due("write(40, 0)", x.write(40, 0), 24);
        due("item 0", x.get(0, 2, 0), 400);
        due("item 23", x.get(0, 2, 23), 600);
        due("item 24 stays", x.get(0, 2, 24), 77);
        due("write(1, 0)", x.write(1, 0), 24);
        due("item 23 at STEP 1", x.get(0, 2, 23), 215);
        x.sheet(1, 0, 2);
        due("write(0, 1)", x.write(0, 1), 2);
        due("the lowest bits of 400", x.get(1, 0, 0), -112);
        due("the lowest bits of 200", x.get(1, 0, 1), -56);
        x.sheet(2, 1, 0);
        due("write(0, 2)", x.write(0, 2), 0);
    }

    private static void counts() {
        promise = 36;
        WarmFloor x = new WarmFloor();
        int[] bad = {-1, 5, 6, 7, 9, LEAST, MOST};
        for (int what : bad) {
            due("count(" + what + ")", x.count(what), BAD);
        }
        x.person(0, 0, 0);
        x.person(0, 0, 0);
        habits(x, 0, "k1");
        habits(x, 1, "???");
        x.dial(FAN, 0, 0);
        x.wall(0, 1, true);
        x.wall(0, 6, true);
        x.set(0, -7);
        due("count(0)", x.count(0), 2);
        due("count(1)", x.count(1), 1);
        due("count(2)", x.count(2), 2);
        due("count(3)", x.count(3), -7);
        due("count(4)", x.count(4), 5);
        due("count(8)", x.count(8), 0);
        x.sheet(0, 0, -1);
        due("count(8): SIZE", x.count(8), 5);
        x.sheet(0, 0, 1);
        x.sheet(1, 1, 1);
        x.copy(0, 0, 1, 0, 0);
        due("count(8): STORE", x.count(8), 4);
        x.lay(0, 0, 0, 9);
        x.vote(0, 0, 9);
        due("count(8) stays", x.count(8), 4);
    }

    private static void digests() {
        promise = 37;
        WarmFloor x = new WarmFloor();
        x.person(3, 190, 195);
        x.person(9, 230, 240);
        x.person(2, 210, 240);
        x.person(23, 300, 300);
        x.dial(REAL, 8, 220);
        x.dial(HEATER, 3, 0);
        x.dial(SHUT, 9, 0);
        x.wall(3, 4, true);
        habits(x, 0, "w2:2+;w9:1-");
        habits(x, 1, "k1:2-;k2:1+");
        habits(x, 2, "k1:0+;!");
        x.dial(FALSE, 0, 0);
        x.set(5, 60);
        habits(x, 3, "k1:3+;k1:3-");
        long h = 17;
        for (int what = 0; what <= 4; what++) {
            h = 31 * h + x.count(what);
        }
        for (int person = 0; person < 4; person++) {
            h = 31 * h + x.fault(person);
        }
        for (int person = 0; person < 4; person++) {
            h = 31 * h + x.all(person, 0);
            h = 31 * h + x.all(person, 1);
        }
        h = 31 * h + x.run(0);
        h = 31 * h + x.run(1);
        for (int step : new int[] {0, 1, 20, 40}) {
            for (int cell = 0; cell < 24; cell++) {
                h = 31 * h + x.warmth(step, cell, 0);
            }
        }
        for (int dial = 0; dial < 4; dial++) {
            h = 31 * h + x.number(39, dial);
        }
        h = 31 * h + x.ring();
        due("a number changes in the last STEP", x.number(39, 3) - x.number(38, 3), -1);
        due("ring() is not empty here", x.ring(), 3);
        due("digest()", x.digest(), h);
        due("digest() again", x.digest(), h);
        x.count(99);
        x.cell(0, 0, 401);
        due("digest() behind refusals", x.digest(), h);
        x.cell(0, 0, 201);
        due("digest() of another floor", x.digest() == h ? 1 : 0, 0);
    }
}
