/** The boundaries that promises 1 to 7 name, on both sides of each, with the answer, the place and the counts. */
public final class FaceEdgeTest {
    private static final int LEAST = Integer.MIN_VALUE;
    private static final int MOST = Integer.MAX_VALUE;

    public static void main(String[] args) {
        heaps();
        feedAtTheEnd();
        feedIsRefused();
        feedOfHighBytes();
        inputAtTheEnd();
        inputIsRefused();
        inputGoesRound();
        emptyText();
        bytesOfRun();
        fuelOfRun();
        runIsRefused();
        refusedAheadOfAnyRun();
        behindN();
        placeAheadOfAnyRun();
        placeAtTheEnd();
        placeOfEachFault();
        fetchOfFewAndNone();
        fetchOverRuns();
        fetchWhenFull();
        countOfOthers();
        countOfEachFault();
        asManyCallsAsThereMayBe();
        Check.end();
    }

    // ==== Promise 1: cells outside 16 .. 4000

    private static void heaps() {
        int[] allowed = {16, 17, 18, 499, 500, 501, 3999, 4000};
        for (int cells : allowed) {
            holds(cells, cells);
        }
        int[] others = {15, 14, 1, 0, -1, -16, -500, 4001, 4002, 8000, LEAST, LEAST + 1, MOST, 65536 + 16};
        for (int cells : others) {
            holds(cells, 500);
        }
    }

    /** So many cells are taken to the last one; one more is not there. */
    private static void holds(int cells, int heap) {
        String fill = "enum L{E,C(box L)}fn main(){let mut n=read;let odd=n%2==1;let mut l=L::E;while n>1{l=L::C(box l);"
            + "n=n-2;}let one;if odd{one=box 1;}print 1;if read==1{let two=box 2;}}";
        OwnedPlaces x = Check.fed(cells, fill);
        x.input(heap);
        Check.due("all of " + cells, x.run(fill.length(), 20000), 0);
        Check.due("cells behind all of " + cells, x.count(1), 0);
        Check.due("most of " + cells, x.count(2), heap);
        Check.feed(x, fill);
        x.input(heap);
        x.input(1);
        Check.due("one more than " + cells, x.run(fill.length(), 20000), 9);
        Check.due("place of one more than " + cells, x.place(), -1);
        Check.due("cells with one more than " + cells, x.count(1), heap);
        Check.due("most with one more than " + cells, x.count(2), heap);
        Check.due("written in " + cells, Check.fetchAll(x), "1\n1\n");
    }

    // ==== Promise 2: more than 3000 bytes

    private static void feedAtTheEnd() {
        OwnedPlaces x = new OwnedPlaces(500);
        Check.feed(x, Check.times(149, "  //  20 bytes here\n"));
        Check.state("at 2980", x, -1, 0, 0, 0, 2980, 0, 0);
        Check.due("feed at 2980", x.feed(0x666e206d, 0x61696e28, 0x297b7072, 0x696e7420, 0x37373b7d) ? 1 : 0, 1);
        Check.state("at 3000", x, -1, 0, 0, 0, 3000, 0, 0);
        Check.due("feed at 3000", x.feed(0, 0, 0, 0, 0) ? 1 : 0, 0);
        Check.due("feed at 3000 of blanks", x.feed(0x20202020, 0x20202020, 0x20202020, 0x20202020, 0x20202020) ? 1 : 0, 0);
        Check.state("at 3000 still", x, -1, 0, 0, 0, 3000, 0, 0);
        Check.due("run of 3001", x.run(3001, 9), -1);
        Check.due("run of 3000", x.run(3000, 9), 0);
        Check.state("behind 3000", x, -1, 7, 0, 0, 0, 3, 0);
        Check.due("the last bytes", x.fetch(), 0x0337370A00000000L);
        Check.due("feed behind run", x.feed(0, 0, 0, 0, 0) ? 1 : 0, 1);
        Check.state("at 20", x, -1, 7, 0, 0, 20, 0, 0);
    }

    private static void feedIsRefused() {
        String text = "fn main(){print 1/read;}";
        OwnedPlaces x = Check.fed(500, text);
        x.input(1);
        x.input(0);
        x.input(3);
        Check.due("run", x.run(text.length(), 30), 0);
        Check.feed(x, text);
        Check.due("run", x.run(text.length(), 20), 7);
        Check.feed(x, text + Check.times(2976, " "));
        Check.state("when full", x, -1, 18, 0, 0, 3000, 2, 1);
        for (int i = 0; i < 3; i++) {
            Check.due("feed when full", x.feed(-1, i, MOST, LEAST, 7) ? 1 : 0, 0);
            Check.state("when full still", x, -1, 18, 0, 0, 3000, 2, 1);
        }
        Check.due("run of the same text", x.run(3000, 5), 0);
        Check.state("at last", x, -1, 3, 0, 0, 0, 4, 0);
        Check.due("written", Check.fetchAll(x), "1\n0\n");
    }

    /** The highest byte of the first number comes first, also where that is below 0. */
    private static void feedOfHighBytes() {
        int[] numbers = {0x20202020, 0x20202020, 0x20202020, 0x20202020, 0x20202020};
        for (int k = 0; k < 5; k++) {
            for (int j = 0; j < 4; j++) {
                int[] row = numbers.clone();
                row[k] = row[k] & ~(255 << 24 - 8 * j) | 0xC3 << 24 - 8 * j;
                OwnedPlaces x = new OwnedPlaces(500);
                Check.due("feed", x.feed(row[0], row[1], row[2], row[3], row[4]) ? 1 : 0, 1);
                Check.due("run", x.run(20, 6), 1);
                Check.state("of byte " + (4 * k + j), x, 4 * k + j, 6, 0, 0, 0, 0, 0);
            }
        }
    }

    // ==== Promise 3: 60 numbers

    private static final String READ_ALL = "fn main(){let mut i=read;while i>0{print read;i=i-1;}}";

    private static String lines(int from, int to) {
        StringBuilder all = new StringBuilder();
        for (int i = from; i <= to; i++) {
            all.append(i).append('\n');
        }
        return all.toString();
    }

    private static void inputAtTheEnd() {
        OwnedPlaces x = new OwnedPlaces(500);
        Check.due("the first", x.input(59) ? 1 : 0, 1);
        for (int i = 1; i <= 59; i++) {
            Check.due("number " + (i + 1), x.input(i) ? 1 : 0, 1);
        }
        Check.state("with 60", x, -1, 0, 0, 0, 0, 0, 60);
        Check.due("number 61", x.input(60) ? 1 : 0, 0);
        Check.due("number 61 again", x.input(Long.MIN_VALUE) ? 1 : 0, 0);
        Check.state("with 60 still", x, -1, 0, 0, 0, 0, 0, 60);
        Check.feed(x, READ_ALL);
        Check.due("run", x.run(READ_ALL.length(), 500), 0);
        Check.due("none is left", x.count(5), 0);
        Check.due("in their order", Check.fetchAll(x), lines(1, 59));
        Check.due("number 1 again", x.input(7) ? 1 : 0, 1);
        Check.due("one is there", x.count(5), 1);
    }

    private static void inputIsRefused() {
        String text = "fn main(){print read;let b=box 1;print 1/0;}";
        OwnedPlaces x = Check.fed(500, text);
        for (int i = 0; i < 60; i++) {
            x.input(i);
        }
        Check.due("run", x.run(text.length(), 30), 7);
        Check.due("one is gone", x.count(5), 59);
        Check.due("one more", x.input(60) ? 1 : 0, 1);
        Check.feed(x, text);
        Check.state("when full", x, -1, 26, 1, 1, Check.fedBytes(text.length()), 2, 60);
        Check.due("input when full", x.input(99) ? 1 : 0, 0);
        Check.state("when full still", x, -1, 26, 1, 1, Check.fedBytes(text.length()), 2, 60);
        Check.due("run", x.run(text.length(), 30), 7);
        Check.due("written", Check.fetchAll(x), "0\n1\n");
    }

    /** What came behind what is gone is read in its order. */
    private static void inputGoesRound() {
        OwnedPlaces x = new OwnedPlaces(500);
        int next = 1;
        for (int round = 0; round < 5; round++) {
            x.input(37);
            for (int i = 0; i < 37; i++) {
                x.input(next + i);
            }
            Check.feed(x, READ_ALL);
            Check.due("run " + round, x.run(READ_ALL.length(), 500), 0);
            Check.due("round " + round, Check.fetchAll(x), lines(next, next + 36));
            next += 37;
        }
        // Input that has come to its end gives 0, as often as it is asked.
        x.input(3);
        x.input(Long.MAX_VALUE);
        Check.feed(x, READ_ALL);
        Check.due("run to the end", x.run(READ_ALL.length(), 500), 0);
        Check.due("zeros", Check.fetchAll(x), "9223372036854775807\n0\n0\n");
        Check.due("none", x.count(5), 0);
        x.input(Long.MIN_VALUE);
        String text = "fn main(){print read;print read;}";
        Check.feed(x, text);
        Check.due("run", x.run(text.length(), 500), 0);
        Check.due("what came behind the end", Check.fetchAll(x), "-9223372036854775808\n0\n");
    }

    // ==== Promise 4: n, fuel, the empty text, bytes behind n

    private static void emptyText() {
        OwnedPlaces x = new OwnedPlaces(500);
        Check.due("run of nothing", x.run(0, 0), 3);
        Check.state("of nothing", x, 0, 0, 0, 0, 0, 0, 0);
        Check.due("run of nothing with fuel", x.run(0, 20000), 3);
        Check.state("of nothing with fuel", x, 0, 20000, 0, 0, 0, 0, 0);
        Check.due("run of 1 of nothing", x.run(1, 5), -1);
        Check.state("of 1 of nothing", x, 0, 20000, 0, 0, 0, 0, 0);
        Check.feed(x, "fn main(){}");
        Check.due("run of 0 bytes of a text", x.run(0, 11), 3);
        Check.state("of 0 bytes of a text", x, 0, 11, 0, 0, 0, 0, 0);
        Check.feed(x, "                   #");
        Check.due("run of 19 blanks", x.run(19, 11), 3);
        Check.state("of 19 blanks", x, 19, 11, 0, 0, 0, 0, 0);
        Check.feed(x, "//");
        Check.due("run of a comment", x.run(2, 11), 3);
        Check.state("of a comment", x, 2, 11, 0, 0, 0, 0, 0);
    }

    private static void bytesOfRun() {
        String text = "fn main(){print 12;}";
        int[] refused = {21, 22, 3000, MOST, -1, -2, -20, LEAST};
        for (int n : refused) {
            OwnedPlaces x = Check.fed(500, text);
            Check.due("run of " + n, x.run(n, 10), -1);
            Check.state("of " + n, x, -1, 0, 0, 0, 20, 0, 0);
            Check.due("run of 20 behind " + n, x.run(20, 10), 0);
            Check.state("of 20 behind " + n, x, -1, 8, 0, 0, 0, 3, 0);
        }
        for (int n = 0; n <= 20; n++) {
            OwnedPlaces x = Check.fed(500, text);
            int fault = n == 0 ? 3 : n == 20 ? 0 : 1;
            Check.due("run of the first " + n, x.run(n, 10), fault);
            // All are faults at the end, but the f alone, which begins no item.
            int place = n == 20 ? -1 : n == 1 ? 0 : n;
            Check.state("of the first " + n, x, place, n == 20 ? 8 : 10, 0, 0, 0, n == 20 ? 3 : 0, 0);
        }
    }

    private static void fuelOfRun() {
        String text = "fn main(){ while true{} }";
        int[] refused = {-1, -2, LEAST, 20001, 20002, MOST};
        for (int fuel : refused) {
            OwnedPlaces x = Check.fed(500, text);
            Check.due("fuel " + fuel, x.run(text.length(), fuel), -1);
            Check.state("with fuel " + fuel, x, -1, 0, 0, 0, 40, 0, 0);
            Check.due("fuel behind " + fuel, x.run(text.length(), 4), 8);
        }
        int[] allowed = {0, 1, 2, 3, 19999, 20000};
        for (int fuel : allowed) {
            OwnedPlaces x = Check.fed(500, text);
            Check.due("fuel " + fuel, x.run(text.length(), fuel), 8);
            Check.state("with fuel " + fuel, x, -1, 0, 0, 0, 0, 0, 0);
        }
        // 1 for main, 1 for each of three statements, 1 for each of i rounds and for the last, 1 for each i = i + 1.
        String counted = "fn main(){let mut i=read;while i>0{i=i-1;}print 5;}";
        for (int spare = -2; spare <= 2; spare++) {
            OwnedPlaces x = Check.fed(500, counted);
            x.input(9997);
            int fuel = 4 + 2 * 9997 + 1 + spare;
            Check.due("fuel and " + spare, x.run(counted.length(), fuel), fuel > 20000 ? -1 : spare < 0 ? 8 : 0);
            if (fuel <= 20000) {
                Check.state("with fuel and " + spare, x, -1, Math.max(spare, 0), 0, 0, 0, spare < 0 ? 0 : 2, 0);
            }
        }
    }

    private static void runIsRefused() {
        String good = "fn main(){let b=box box 1;{let c=box 2;}print **b+read;print 1/read;}";
        OwnedPlaces x = Check.fed(500, good);
        x.input(41);
        x.input(0);
        x.input(9);
        Check.due("run", x.run(good.length(), 50), 7);
        String next = "fn main(){print read*2;}";
        Check.feed(x, next);
        int[][] refused = {{-1, 5}, {41, 5}, {24, -1}, {24, 20001}, {-1, -1}, {41, 20001}, {LEAST, MOST}, {MOST, LEAST},
            {0, -1}, {0, 20001}};
        for (int[] pair : refused) {
            Check.due("run(" + pair[0] + ", " + pair[1] + ")", x.run(pair[0], pair[1]), -1);
            Check.state("behind run(" + pair[0] + ", " + pair[1] + ")", x, -1, 44, 2, 3, 40, 3, 1);
        }
        Check.due("run of what is there still", x.run(24, 5), 0);
        Check.state("at last", x, -1, 3, 0, 0, 0, 6, 0);
        Check.due("written", Check.fetchAll(x), "42\n18\n");
        Check.feed(x, "fn main(){} fn main(){}");
        Check.due("a name twice", x.run(23, 5), 3);
        Check.due("refused", x.run(1, 5), -1);
        Check.state("of the name still", x, 15, 5, 0, 0, 0, 0, 0);
    }

    private static void refusedAheadOfAnyRun() {
        OwnedPlaces x = new OwnedPlaces(500);
        Check.due("run", x.run(1, 5), -1);
        Check.due("run", x.run(0, -1), -1);
        Check.due("run", x.run(0, 20001), -1);
        Check.state("ahead of any run", x, -1, 0, 0, 0, 0, 0, 0);
    }

    /** What stands behind n is not looked at, and is gone. */
    private static void behindN() {
        String text = "fn main(){print 1;}";
        String[] others = {"}", "#", "\u0000", "\u00ff", "/", " fn main(){}", "x", "struct main{a:main}"};
        for (String behind : others) {
            OwnedPlaces x = Check.fed(500, text + behind);
            Check.due("run ahead of " + behind, x.run(text.length(), 9), 0);
            Check.state("ahead of " + behind, x, -1, 7, 0, 0, 0, 2, 0);
            Check.due("nothing is left of " + behind, x.run(1, 9), -1);
            Check.feed(x, text);
            Check.due("run behind " + behind, x.run(text.length(), 9), 0);
        }
        OwnedPlaces y = Check.fed(500, Check.times(3000, "x"));
        Check.due("run of 0 of 3000", y.run(0, 9), 3);
        Check.state("of 0 of 3000", y, 0, 9, 0, 0, 0, 0, 0);
        for (int i = 1; i <= 150; i++) {
            Check.due("feed " + i + " behind 3000", y.feed(0, 0, 0, 0, 0) ? 1 : 0, 1);
        }
        Check.due("feed 151 behind 3000", y.feed(0, 0, 0, 0, 0) ? 1 : 0, 0);
    }

    // ==== Promise 5: the text's end, and ahead of any run

    private static void placeAheadOfAnyRun() {
        OwnedPlaces x = new OwnedPlaces(500);
        Check.due("place of a new object", x.place(), -1);
        Check.feed(x, "#");
        Check.due("place behind feed", x.place(), -1);
        x.input(1);
        Check.due("place behind input", x.place(), -1);
        x.fetch();
        Check.due("place behind fetch", x.place(), -1);
        Check.due("run", x.run(1, 1), 1);
        Check.due("place behind run", x.place(), 0);
        Check.feed(x, "fn main(){}");
        Check.due("place behind another feed", x.place(), 0);
    }

    private static void placeAtTheEnd() {
        String[] open = {"fn", "fn main", "fn main(", "fn main()", "fn main(){", "fn main(){let", "fn main(){let x",
            "fn main(){let x=", "fn main(){let x=1", "fn main(){let x=1;", "fn main(){if true{}", "fn main(){match x{",
            "struct", "struct S", "struct S{", "struct S{a", "struct S{a:", "struct S{a:box", "struct S{a:int", "enum E{A",
            "enum E{A(", "enum E{A(int", "fn f<", "fn f<'a", "fn f<'a>", "fn f()->", "fn f()->&", "fn f()->&'a mut"};
        String[] behind = {"", " ", "\n\n\n", " // the end", "//", "\t\r "};
        for (String text : open) {
            for (String blanks : behind) {
                Check.fault(1, text + blanks + "@");
            }
        }
        for (String blanks : behind) {
            Check.fault(3, "fn f(){}" + blanks + "@");
            Check.fault(3, "struct main{a:int}" + blanks + "@");
        }
        // So it is where no byte is behind the last one of 3000.
        String[] last = {"1", "a", "_", "12", "(", "-", "print"};
        for (String token : last) {
            Check.fault(1, "fn main(){" + Check.times(2990 - token.length(), "\n") + token + "@");
        }
        String[] wrong = {"'", "=", "&&", "/", "#", "<", "!=", ":", "::", "|"};
        for (String token : wrong) {
            Check.fault(1, "fn main(){" + Check.times(2990 - token.length(), "\n") + "@" + token);
        }
        // A text of 3000 bytes has its end at 3000.
        Check.fault(1, "fn main(){" + Check.times(2990, " ") + "@");
        Check.fault(3, "fn f(){}//" + Check.times(2990, ".") + "@");
    }

    private static void placeOfEachFault() {
        String[] texts = {"fn main(){print 1;}", " x", "fn main(){a" + Check.times(17, ".a") + ";}", "fn main(){y;}",
            "fn main(){-true;}", "fn main(){let x=1;x=2;}", "fn main(){let mut x=1;let r=&x;x=2;print *r;}",
            "fn main(){print 1/0;}", "fn main(){while true{}}", "enum L{E,C(box L)}fn main(){let mut l=L::E;while true"
            + "{l=L::C(box l);}}", "fn main(){main();}"};
        int[] places = {-1, 1, 43, 10, 10, 18, 31, -1, -1, -1, -1};
        OwnedPlaces x = new OwnedPlaces(16);
        for (int round = 0; round < 2; round++) {
            for (int i = 0; i < texts.length; i++) {
                int k = round == 0 ? i : texts.length - 1 - i;
                Check.feed(x, texts[k]);
                Check.due("fault " + k, x.run(texts[k].length(), 200), k);
                Check.due("place of fault " + k, x.place(), places[k]);
                Check.due("refused behind fault " + k, x.run(1, 200), -1);
                Check.due("place of fault " + k + " still", x.place(), places[k]);
            }
        }
    }

    // ==== Promise 6: fewer than 7 bytes, and none

    private static void fetchOfFewAndNone() {
        String digits = "123456789012345";
        for (int size = 2; size <= 15; size++) {
            String text = "fn main(){print " + digits.substring(0, size - 1) + ";}";
            OwnedPlaces x = Check.fed(500, text);
            Check.due("none ahead of a run", x.fetch(), 0);
            Check.due("run", x.run(text.length(), 9), 0);
            Check.due("bytes of " + size, x.count(4), size);
            String left = digits.substring(0, size - 1) + "\n";
            while (!left.isEmpty()) {
                int taken = Math.min(left.length(), 7);
                Check.due("fetch of " + size, x.fetch(), packed(left.substring(0, taken)));
                left = left.substring(taken);
                Check.due("bytes left of " + size, x.count(4), left.length());
            }
            Check.due("none behind " + size, x.fetch(), 0);
            Check.due("none behind " + size + " again", x.fetch(), 0);
            Check.state("behind " + size, x, -1, 7, 0, 0, 0, 0, 0);
        }
    }

    private static long packed(String bytes) {
        long all = bytes.length();
        for (int i = 0; i < 7; i++) {
            all = all << 8 | (i < bytes.length() ? bytes.charAt(i) : 0);
        }
        return all;
    }

    /** What was written waits, run by run, until it is taken; runs with faults take nothing away. */
    private static void fetchOverRuns() {
        OwnedPlaces x = new OwnedPlaces(500);
        String[] texts = {"fn main(){print 123;}", "fn main(){print 4/0;}", "fn main(", "fn main(){print true;print 1/0;}",
            "fn main(){token(-5);}"};
        int[] faults = {0, 7, 1, 7, 0};
        int[] waiting = {4, 4, 4, 9, 13};
        for (int i = 0; i < texts.length; i++) {
            Check.feed(x, texts[i]);
            Check.due("run " + i, x.run(texts[i].length(), 9), faults[i]);
            Check.due("bytes behind run " + i, x.count(4), waiting[i]);
        }
        Check.due("first seven", x.fetch(), packed("123\ntru"));
        Check.feed(x, "fn main(){print 0;}");
        Check.due("run", x.run(19, 9), 0);
        Check.due("next seven", x.fetch(), packed("e\nd-5\n0"));
        Check.due("the last", x.fetch(), packed("\n"));
        Check.due("none", x.fetch(), 0);
    }

    // ==== RUNNING: at most 4000 bytes wait

    private static final String LINES = "fn main(){let mut i=read;while i>0{print 123456789;i=i-1;}print 1;print 23;"
        + "print false;token(-4);}";
    private static final String REST = "1\n23\nfalse\nd-4\n";

    private static void fetchWhenFull() {
        for (int lines = 398; lines <= 401; lines++) {
            OwnedPlaces x = Check.fed(500, LINES);
            x.input(lines);
            Check.due("run of " + lines, x.run(LINES.length(), 2000), 0);
            String all = Check.times(lines, "123456789\n") + REST;
            String kept = all.substring(0, Math.min(all.length(), 4000));
            Check.due("bytes of " + lines, x.count(4), kept.length());
            Check.due("written of " + lines, Check.fetchAll(x), kept);
        }
        // Of what is beyond, the first bytes fill what is free: none, one, some of a line, all of it.
        for (int fetches = 0; fetches <= 2; fetches++) {
            for (int size = 1; size <= 15; size++) {
                byteByByte(fetches, size);
            }
        }
    }

    private static void byteByByte(int fetches, int size) {
        OwnedPlaces x = Check.fed(500, LINES);
        x.input(400);
        Check.due("run", x.run(LINES.length(), 2000), 0);
        Check.due("full", x.count(4), 4000);
        int taken = 7 * fetches;
        for (int i = 0; i < fetches; i++) {
            Check.due("fetch", x.fetch() >>> 56, 7);
        }
        String text = "fn main(){print " + Check.times(size, "8") + ";print 77;}";
        Check.feed(x, text);
        Check.due("run with " + taken + " free", x.run(text.length(), 9), 0);
        String more = Check.times(size, "8") + "\n77\n";
        String kept = more.substring(0, Math.min(taken, more.length()));
        Check.due("bytes with " + taken + " free", x.count(4), 4000 - taken + kept.length());
        Check.due("written with " + taken + " free", Check.fetchAll(x),
            Check.times(400, "123456789\n").substring(taken) + kept);
    }

    // ==== Promise 7: another what, and ahead of any run

    private static void countOfOthers() {
        OwnedPlaces x = new OwnedPlaces(500);
        int[] others = {-1, -2, 6, 7, 100, 256, LEAST, LEAST + 3, MOST};
        for (int what : others) {
            Check.due("count " + what, x.count(what), -1);
        }
        Check.state("of a new object", x, -1, 0, 0, 0, 0, 0, 0);
        Check.feed(x, "fn main(){let b=box 1;print 1;print 1/0;}");
        x.input(5);
        Check.due("run", x.run(41, 9), 7);
        for (int what : others) {
            Check.due("count " + what + " behind a run", x.count(what), -1);
        }
        Check.state("behind a run", x, -1, 5, 1, 1, 0, 2, 1);
    }

    private static void countOfEachFault() {
        OwnedPlaces x = new OwnedPlaces(16);
        counted(x, "fn main(){let b=box box 1;}", 0, 7, 0, 2);
        counted(x, "fn main(){let b=box box 1;", 1, 9, 0, 0);
        counted(x, "fn main(){let b=box box 1;" + Check.times(16, "{") + Check.times(16, "}") + "}", 2, 9, 0, 0);
        counted(x, "fn main(){let b=box box 1;c;}", 3, 9, 0, 0);
        counted(x, "fn main(){let b=box box 1;b+1;}", 4, 9, 0, 0);
        counted(x, "fn main(){let b=box box 1;b=box box 2;}", 5, 9, 0, 0);
        counted(x, "fn main(){let b=box box 1;let r=&b;b;&*r;}", 6, 9, 0, 0);
        counted(x, "fn main(){let b=box box 1;{box 5;}print 1%0;}", 7, 4, 2, 3);
        counted(x, "fn main(){let b=box box 1;{let c=box 5;while true{}}}", 8, 0, 3, 3);
        counted(x, "fn main(){let b=box box 1;let c=" + Check.times(15, "box ") + "1;}", 9, 6, 16, 16);
        counted(x, "fn main(){let b=box box 1;}", 0, 7, 0, 2);
        String deep = "fn f(n:int){let b=box n;f(n+1);}fn main(){f(1);}";
        OwnedPlaces y = Check.fed(500, deep);
        Check.due("deep", y.run(deep.length(), 200), 10);
        // main, its statement and 60 calls of three each, but the last one has its fuel alone.
        Check.state("of deep", y, -1, 200 - 2 - 59 * 3 - 1, 59, 59, 0, 0, 0);
    }

    private static void counted(OwnedPlaces x, String text, int fault, int fuel, int cells, int most) {
        Check.feed(x, text);
        Check.due("fault of " + text, x.run(text.length(), 9), fault);
        Check.due("fuel of " + text, x.count(0), fuel);
        Check.due("cells of " + text, x.count(1), cells);
        Check.due("most cells of " + text, x.count(2), most);
        Check.due("bytes of text behind " + text, x.count(3), 0);
    }

    /** The 512th call answers as the first one did. */
    private static void asManyCallsAsThereMayBe() {
        OwnedPlaces x = new OwnedPlaces(4000);
        for (int i = 0; i < 128; i++) {
            Check.due("feed " + i, x.feed(0x666e206d, 0x61696e28, 0x297b7072, 0x696e7420, 0x313b7d20) ? 1 : 0, 1);
            Check.due("run " + i, x.run(19, 2), 0);
            Check.due("fetch " + i, x.fetch(), packed("1\n"));
            Check.due("count " + i, x.count(0), 0);
        }
    }
}
