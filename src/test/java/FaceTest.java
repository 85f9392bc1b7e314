/** Promises 1 to 7: the constructor and the six methods, with their limits and refusals. */
public final class FaceTest {
    public static void main(String[] args) {
        newObject();
        feed();
        input();
        run();
        place();
        fetch();
        count();
        Check.end();
    }

    /** The most cells that can be taken by boxes of ints tell how large the heap is. */
    private static int heapOf(int cells) {
        OwnedPlaces x = new OwnedPlaces(cells);
        String text = "enum L{E,C(box L)}fn main(){let mut l=L::E;while true{l=L::C(box l);}}";
        Check.feed(x, text);
        Check.due("run in " + cells, x.run(text.length(), 20000), 9);
        Check.due("most in " + cells, x.count(2), x.count(1));
        return x.count(1);
    }

    private static void newObject() {
        Check.due("heap of 16", heapOf(16), 16);
        Check.due("heap of 4000", heapOf(4000), 4000);
        Check.due("heap of 15", heapOf(15), 500);
        Check.due("heap of 4001", heapOf(4001), 500);
        Check.due("heap of -1", heapOf(-1), 500);
        Check.due("heap of the least", heapOf(Integer.MIN_VALUE), 500);
        Check.due("heap of 18", heapOf(18), 18);
        OwnedPlaces x = new OwnedPlaces(500);
        Check.due("place of a new object", x.place(), -1);
        for (int what = 0; what < 6; what++) {
            Check.due("count " + what + " of a new object", x.count(what), 0);
        }
        Check.due("fetch of a new object", x.fetch(), 0);
    }

    private static void feed() {
        OwnedPlaces x = new OwnedPlaces(500);
        for (int i = 1; i <= 150; i++) {
            Check.due("feed " + i, x.feed(0, 0, 0, 0, 0) ? 1 : 0, 1);
            Check.due("bytes behind feed " + i, x.count(3), 20 * i);
        }
        Check.due("feed 151", x.feed(0, 0, 0, 0, 0) ? 1 : 0, 0);
        Check.due("bytes behind feed 151", x.count(3), 3000);
        Check.due("run of zeros", x.run(3000, 5), 1);
        Check.due("place of zeros", x.place(), 0);
        Check.due("bytes behind run", x.count(3), 0);
        Check.due("feed behind run", x.feed(0, 0, 0, 0, 0) ? 1 : 0, 1);
        OwnedPlaces y = new OwnedPlaces(500);
        Check.feed(y, "fn main(){print 1234567890123;}        ");
        Check.due("run of ordered bytes", y.run(31, 50), 0);
        Check.due("written", Check.fetchAll(y), "1234567890123\n");
    }

    private static void input() {
        OwnedPlaces x = new OwnedPlaces(500);
        for (int i = 1; i <= 60; i++) {
            Check.due("input " + i, x.input(i * 1000000007L - 30) ? 1 : 0, 1);
            Check.due("numbers behind input " + i, x.count(5), i);
        }
        Check.due("input 61", x.input(5) ? 1 : 0, 0);
        Check.due("numbers behind input 61", x.count(5), 60);
        String text = "fn main(){print read;print read-read;}";
        Check.feed(x, text);
        Check.due("run", x.run(text.length(), 50), 0);
        Check.due("read", Check.fetchAll(x), "999999977\n" + "-1000000007\n");
        Check.due("numbers left", x.count(5), 57);
        for (int i = 0; i < 3; i++) {
            Check.due("input again", x.input(i) ? 1 : 0, 1);
        }
        Check.due("input when full again", x.input(9) ? 1 : 0, 0);
        OwnedPlaces y = new OwnedPlaces(500);
        y.input(Long.MIN_VALUE);
        y.input(Long.MAX_VALUE);
        String all = "fn main(){print read;print read;print read;}";
        Check.feed(y, all);
        Check.due("run", y.run(all.length(), 50), 0);
        Check.due("none is 0", Check.fetchAll(y), "-9223372036854775808\n9223372036854775807\n0\n");
    }

    private static void run() {
        OwnedPlaces x = new OwnedPlaces(500);
        Check.due("no text", x.run(0, 0), 3);
        Check.due("place in no text", x.place(), 0);
        Check.feed(x, "fn main(){} struct struct");
        Check.due("n below 0", x.run(-1, 5), -1);
        Check.due("n too large", x.run(41, 5), -1);
        Check.due("fuel below 0", x.run(10, -1), -1);
        Check.due("fuel too large", x.run(10, 20001), -1);
        Check.due("bytes stay", x.count(3), 40);
        Check.due("place stays", x.place(), 0);
        Check.due("first bytes alone", x.run(11, 20000), 0);
        Check.due("bytes are gone", x.count(3), 0);
        Check.due("fuel left", x.count(0), 19999);
        Check.feed(x, "fn main(){} struct struct");
        Check.due("all bytes", x.run(25, 0), 1);
        Check.due("place", x.place(), 19);
        Check.feed(x, "fn main(){}");
        Check.due("no fuel", x.run(11, 0), 8);
        Check.due("place", x.place(), -1);
        Check.feed(x, "fn main(){}");
        Check.due("the end within a token", x.run(9, 0), 1);
        Check.due("place at the end", x.place(), 9);
        // What stands behind n does not tell, not even in the token that is cut.
        cut("fn main(){print 1", "x;}", 1, 17);
        cut("fn main(){let a2345678901234567890".substring(0, 34), "b=1;}", 1, 34);
        cut("fn main(){}/", "/", 1, 11);
        cut("fn main(){print 1=", "=1;}", 1, 17);
        cut("fn f<'a", " b", 1, 7);
        cut("fn f<'", "a>(){}", 1, 5);
        cut("fn main(){print 9223372036854775807", "0;}", 1, 35);
        cut("fn main(){print 922337203685477580", "8;}", 1, 34);
        cut("fn main(){print 1&", "&1;}", 1, 17);
        cut("fn main()", "{}", 1, 9);
        cut("fn main(){} //", "\u0001", 0, -1);
        cut("fn main(){}", "#", 0, -1);
    }

    private static void cut(String text, String behind, int fault, int place) {
        OwnedPlaces x = new OwnedPlaces(500);
        Check.feed(x, text + behind);
        Check.due("fault of " + text + " ahead of " + behind, x.run(text.length(), 9), fault);
        Check.due("place in " + text, x.place(), place);
    }

    private static void place() {
        OwnedPlaces x = new OwnedPlaces(500);
        Check.feed(x, "  fn main(){print 1/0;}");
        Check.due("panic", x.run(23, 9), 7);
        Check.due("no place of a panic", x.place(), -1);
        Check.feed(x, "  fn main(){print y;}");
        Check.due("no name", x.run(21, 9), 3);
        Check.due("place of a name", x.place(), 18);
        Check.due("refused", x.run(-1, 9), -1);
        Check.due("place stays", x.place(), 18);
        Check.feed(x, "fn main(){}");
        Check.due("fine", x.run(11, 9), 0);
        Check.due("no place", x.place(), -1);
    }

    private static void fetch() {
        OwnedPlaces x = new OwnedPlaces(500);
        String text = "fn main(){print 123456;print 12;}";
        Check.feed(x, text);
        Check.due("run", x.run(text.length(), 9), 0);
        Check.due("waiting", x.count(4), 10);
        Check.due("seven", x.fetch(), 0x073132333435360AL);
        Check.due("waiting then", x.count(4), 3);
        Check.due("three", x.fetch(), 0x0331320A00000000L);
        Check.due("none", x.fetch(), 0);
        full(x);
    }

    private static void full(OwnedPlaces x) {
        String text = "fn main(){let mut i=0;while i<799{print 1234;i=i+1;}print 12;print 567;print 8;}";
        Check.feed(x, text);
        Check.due("run", x.run(text.length(), 9000), 0);
        Check.due("waiting when full", x.count(4), 4000);
        String first = Check.times(799, "1234\n");
        Check.feed(x, "fn main(){print 7;}");
        Check.due("run when full", x.run(19, 9000), 0);
        Check.due("waiting when full", x.count(4), 4000);
        Check.due("seven", x.fetch(), 0x07313233340A3132L);
        Check.feed(x, "fn main(){print 98765432;}");
        Check.due("run when nearly full", x.run(26, 9000), 0);
        Check.due("waiting when full again", x.count(4), 4000);
        Check.due("byte by byte", Check.fetchAll(x), first.substring(7) + "12\n56" + "9876543");
        Check.due("waiting at last", x.count(4), 0);
    }

    private static void count() {
        OwnedPlaces x = new OwnedPlaces(500);
        Check.due("count -1", x.count(-1), -1);
        Check.due("count 6", x.count(6), -1);
        Check.due("count of the least", x.count(Integer.MIN_VALUE), -1);
        String text = "struct P{a:int,b:int}fn main(){let b=box new P{a:1,b:2};{let c=box 1;}let d=box (1/0);}";
        Check.feed(x, text);
        Check.due("run", x.run(text.length(), 99), 7);
        Check.due("fuel left", x.count(0), 94);
        Check.due("in use", x.count(1), 2);
        Check.due("most in use", x.count(2), 3);
        Check.feed(x, "fn main(){print y;}");
        Check.due("run", x.run(19, 17), 3);
        Check.due("all fuel", x.count(0), 17);
        Check.due("none in use", x.count(1), 0);
        Check.due("most is none", x.count(2), 0);
    }
}
