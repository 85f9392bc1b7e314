import java.math.BigInteger;
import java.util.ArrayList;
import java.util.List;

/** The boundaries that 'Terms' names for running: 64 bits, fuel, 60 calls, room for blocks, ends of input and output. */
public final class RunEdgeTest {
    private static final long[] EDGES = {Long.MIN_VALUE, Long.MIN_VALUE + 1, -(1L << 62) - 1, -(1L << 62), -4294967297L,
        -4294967296L, -3037000500L, -3037000499L, -2147483648L, -3, -2, -1, 0, 1, 2, 3, 2147483648L, 3037000499L, 3037000500L,
        4294967295L, 4294967296L, 4294967297L, 1L << 62, (1L << 62) + 1, Long.MAX_VALUE - 1, Long.MAX_VALUE};
    private static final BigInteger LEAST = BigInteger.valueOf(Long.MIN_VALUE);
    private static final BigInteger MOST = BigInteger.valueOf(Long.MAX_VALUE);
    private static long seed = 2026;

    public static void main(String[] args) {
        beyond64Bits();
        unaryMinus();
        comparisons();
        panicStops();
        calls();
        callsOneBehindTheOther();
        deepOrFuel();
        fuelOfEachStatement();
        fuelWithin();
        roomOfOneBlock();
        roomSideBySide();
        roomAtRandom();
        roomComesBack();
        inputAtItsEnd();
        partsWithAValue();
        Check.end();
    }

    private static String main(String body) {
        return "fn main(){" + body + "}";
    }

    private static int random(int below) {
        seed = seed * 6364136223846793005L + 1442695040888963407L;
        return (int) ((seed >>> 33) % below);
    }

    // ==== + - * / % beyond 64 bits, by 0, of the least by -1

    private static void beyond64Bits() {
        String signs = "+-*/%";
        for (int k = 0; k < signs.length(); k++) {
            String text = main("print 1;print read" + signs.charAt(k) + "read;print 2;");
            OwnedPlaces x = new OwnedPlaces(16);
            for (long left : EDGES) {
                for (long right : EDGES) {
                    operated(x, text, signs.charAt(k), left, right);
                }
            }
        }
    }

    private static void operated(OwnedPlaces x, String text, char sign, long left, long right) {
        BigInteger due = exact(sign, left, right);
        boolean fits = due != null && due.compareTo(LEAST) >= 0 && due.compareTo(MOST) <= 0;
        String what = left + " " + sign + " " + right;
        Check.feed(x, text);
        x.input(left);
        x.input(right);
        Check.due(what, x.run(text.length(), 9), fits ? 0 : 7);
        Check.due("place of " + what, x.place(), -1);
        Check.due("fuel of " + what, x.count(0), fits ? 5 : 6);
        Check.due("written by " + what, Check.fetchAll(x), fits ? "1\n" + due + "\n2\n" : "1\n");
        Check.due("input of " + what, x.count(5), 0);
    }

    /** Without a bound; null, if there is none, or the document asks for a PANIC though there is one. */
    private static BigInteger exact(char sign, long left, long right) {
        BigInteger a = BigInteger.valueOf(left);
        BigInteger b = BigInteger.valueOf(right);
        switch (sign) {
            case '+': return a.add(b);
            case '-': return a.subtract(b);
            case '*': return a.multiply(b);
            default:
                if (right == 0 || left == Long.MIN_VALUE && right == -1) {
                    return null;
                }
                return sign == '/' ? a.divide(b) : a.remainder(b);
        }
    }

    private static void unaryMinus() {
        String text = main("print -read;");
        for (long v : EDGES) {
            OwnedPlaces x = Check.fed(16, text);
            x.input(v);
            boolean fits = v != Long.MIN_VALUE;
            Check.due("- of " + v, x.run(text.length(), 9), fits ? 0 : 7);
            Check.due("written of - of " + v, Check.fetchAll(x), fits ? BigInteger.valueOf(v).negate() + "\n" : "");
            Check.state("of - of " + v, x, -1, 7, 0, 0, 0, 0, 0);
        }
        Check.writes(main("print -9223372036854775807-1;print -(-9223372036854775807);"),
            "-9223372036854775808\n9223372036854775807\n");
        Check.runs(main("print -(-9223372036854775807-1);"), 9, 7, "");
        Check.runs(main("print - -(-9223372036854775807-1);"), 9, 7, "");
    }

    private static void comparisons() {
        String text = main("let a=read;let b=read;print a<b;print a<=b;print a>b;print a>=b;print a==b;print a!=b;");
        OwnedPlaces x = new OwnedPlaces(16);
        for (long a : EDGES) {
            for (long b : EDGES) {
                Check.feed(x, text);
                x.input(a);
                x.input(b);
                Check.due("run", x.run(text.length(), 9), 0);
                String due = (a < b) + "\n" + (a <= b) + "\n" + (a > b) + "\n" + (a >= b) + "\n" + (a == b) + "\n" + (a != b)
                    + "\n";
                Check.due("comparisons of " + a + " and " + b, Check.fetchAll(x), due);
            }
        }
    }

    /** A PANIC stops at once, wherever it is; what there was stays as it is. */
    private static void panicStops() {
        String f = "fn f(a:int,b:int)->int{print 3;return a;}struct P{a:int,b:int}enum E{A(int,int)}";
        String[] within = {"f(1,1/0);", "f(1/0,f(1,2));", "new P{b:1/0,a:f(1,2)};", "E::A(1%0,f(1,2));", "box (1/0);",
            "token(1/0);", "if 1/0==1{print 4;}", "while 1/0==1{print 4;}", "let x=1/0;", "let mut x=1;x=1/0;",
            "print 1/0;", "true&&1/0==1;", "false||1/0==1;", "1/0+f(1,2);", "match E::A(1,1/0){A(x,y)=>{}}", "return 1/0;"};
        for (String statement : within) {
            boolean isReturn = statement.startsWith("return");
            String body = "let t=token(5);let b=box box 1;print 1;" + statement + "print 2;";
            String text = isReturn ? f + "fn g()->int{" + body + "}" + main("g();") : f + main(body);
            OwnedPlaces x = Check.fed(16, text);
            Check.due("fault of " + text, x.run(text.length(), 100), 7);
            Check.due("written by " + text, Check.fetchAll(x), "1\n");
            Check.due("cells of " + text, x.count(1), 2);
            Check.due("most cells of " + text, x.count(2), 2);
        }
        Check.writes(main("true||1/0==1;false&&1/0==1;print 1;"), "1\n");
    }

    // ==== At most 60 calls in one another

    private static void calls() {
        String one = "fn f(n:int)->int{if n<=1{return 1;}return 1+f(n-1);}";
        String two = "fn f(n:int)->int{if n<=1{return 1;}return g(n-1)+1;}fn g(n:int)->int{if n<=1{return 1;}return f(n-1)+1;}";
        String three = "fn f(n:int)->int{if n<=1{return 1;}let x=id(f(n-1))+1;return x;}fn id(n:int)->int{return n;}";
        String[] all = {one, two};
        for (String functions : all) {
            for (int depth = 57; depth <= 59; depth++) {
                Check.writes(functions + main("print f(" + depth + ");"), depth + "\n");
            }
            Check.runs(functions + main("print 0;print f(60);print 1;"), 2000, 10, "0\n");
            Check.runs(functions + main("print f(10000);"), 2000, 10, "");
        }
        // main, 58 of f, and in each of these a call of id that is one deeper.
        Check.writes(three + main("print f(59);"), "59\n");
        Check.runs(three + main("print f(60);"), 2000, 10, "");
        String leaf = "fn f(n:int){if n<=1{g();}else{f(n-1);}}fn g(){print 7;}";
        Check.writes(leaf + main("f(58);"), "7\n");
        Check.runs(leaf + main("f(59);"), 2000, 10, "");
        // In an argument, one is not within the other.
        Check.writes("fn f(n:int)->int{return n+1;}" + main("print " + Check.times(14, "f(") + "0" + Check.times(14, ")") + ";"),
            "14\n");
        Check.runs(main("main();"), 2000, 10, "");
    }

    private static void callsOneBehindTheOther() {
        String f = "fn f(n:int)->int{if n<=1{return 1;}return f(n-1)+1;}";
        String text = f + main("let mut i=0;let mut s=0;while i<50{s=s+f(59);i=i+1;}print s;");
        Check.writes(text, "2950\n");
        Check.writes("fn g(){}" + main("let mut i=0;while i<3000{g();g();i=i+1;}print i;"), "3000\n");
        // What a run that was too deep left open is not there in the next one.
        OwnedPlaces x = new OwnedPlaces(500);
        String deep = f + main("print f(60);");
        String good = f + main("print f(59);");
        for (int i = 0; i < 5; i++) {
            Check.feed(x, deep);
            Check.due("deep", x.run(deep.length(), 1000), 10);
            Check.feed(x, good);
            Check.due("good", x.run(good.length(), 1000), 0);
            Check.due("written", Check.fetchAll(x), "59\n");
        }
    }

    private static void deepOrFuel() {
        // Each call is two: its own, and that of the statement in it.
        String text = "fn f(){f();}" + main("f();");
        for (int fuel = 117; fuel <= 125; fuel++) {
            OwnedPlaces x = Check.fed(16, text);
            Check.due("fault with " + fuel, x.run(text.length(), fuel), fuel >= 121 ? 10 : 8);
            Check.state("with " + fuel, x, -1, Math.max(fuel - 121, 0), 0, 0, 0, 0, 0);
        }
    }

    // ==== FUEL

    private static void costs(int cost, String text) {
        for (int spare = -cost; spare <= 2; spare++) {
            OwnedPlaces x = Check.fed(500, text);
            Check.due("fault of " + text + " with " + (cost + spare), x.run(text.length(), cost + spare), spare < 0 ? 8 : 0);
            Check.due("place in " + text, x.place(), -1);
            Check.due("fuel of " + text + " with " + (cost + spare), x.count(0), Math.max(spare, 0));
        }
    }

    private static void fuelOfEachStatement() {
        String e = "enum E{A,B(int)}fn f(){}fn g(a:int)->int{return a;}fn h(){return;}";
        costs(1, e + main(""));
        costs(2, e + main("let x;"));
        costs(2, e + main("let x=1;"));
        costs(3, e + main("let x;x=1;"));
        costs(2, e + main("1;"));
        costs(2, e + main("{}"));
        costs(3, e + main("{{}}"));
        costs(3, e + main("{}{}"));
        costs(2, e + main("return;"));
        costs(2, e + main("return;1;2;"));
        costs(2, e + main("print 1;"));
        costs(2, e + main("if true{}"));
        costs(2, e + main("if true{}else{}"));
        costs(2, e + main("if false{}else{}"));
        costs(2, e + main("if false{}else if false{}else if true{}"));
        costs(3, e + main("if false{}else if false{}else{1;}"));
        costs(3, e + main("if true{{}}"));
        costs(3, e + main("while false{}"));
        costs(2 + 3 * 2 + 2, e + main("let mut i=0;while i<3{i=i+1;}"));
        costs(2 + 2 * 3 + 2, e + main("let mut i=0;while i<2{i=i+1;{}}"));
        costs(2, e + main("match E::A{A=>{}B(x)=>{1;}}"));
        costs(3, e + main("match E::B(1){A=>{}B(x)=>{x;}}"));
        costs(3, e + main("f();"));
        costs(4, e + main("h();"));
        costs(4, e + main("g(1);"));
        costs(6, e + main("g(g(1));"));
        costs(6, e + main("g(1)+g(1);"));
        costs(2, e + main("false&&g(1)==1;"));
        costs(4, e + main("true&&g(1)==1;"));
        costs(4, e + main("f();1;"));
        costs(8, e + main("while g(1)==2{}1;{let y=1;}"));
    }

    /** Without fuel nothing of what it was for is done. */
    private static void fuelWithin() {
        Check.runs(main("print 1;print 2;print 3;"), 1, 8, "");
        Check.runs(main("print 1;print 2;print 3;"), 2, 8, "1\n");
        Check.runs(main("print 1;print 2;print 3;"), 3, 8, "1\n2\n");
        Check.runs(main("print 1;print 2;print 3;"), 4, 0, "1\n2\n3\n");
        Check.runs("fn f()->bool{print 1;return false;}" + main("while f(){}"), 2, 8, "");
        Check.runs("fn f()->bool{print 1;return false;}" + main("while f(){}"), 3, 8, "");
        Check.runs("fn f()->bool{print 1;return false;}" + main("while f(){}"), 4, 8, "");
        Check.runs("fn f()->bool{print 1;return false;}" + main("while f(){}"), 5, 8, "1\n");
        Check.runs("fn f()->bool{print 1;return false;}" + main("while f(){}"), 6, 0, "1\n");
        // The exps of a call come ahead of its fuel.
        String call = "fn f(a:int){}" + main("f(read);");
        OwnedPlaces x = Check.fed(500, call);
        x.input(5);
        Check.due("run", x.run(call.length(), 2), 8);
        Check.due("what was read is gone", x.count(5), 0);
        x = Check.fed(500, main("read;"));
        x.input(5);
        Check.due("run", x.run(16, 1), 8);
        Check.due("what was not read is there", x.count(5), 1);
    }

    // ==== BLOCKS

    private static String structs(int most) {
        StringBuilder all = new StringBuilder();
        for (int size = 1; size <= most; size++) {
            StringBuilder fields = new StringBuilder();
            StringBuilder values = new StringBuilder();
            for (int i = 0; i < size; i++) {
                String comma = i == 0 ? "" : ",";
                fields.append(comma).append((char) ('a' + i)).append(":int");
                values.append(comma).append((char) ('a' + i)).append(":1");
            }
            all.append("struct S").append(size).append('{').append(fields).append("}fn m").append(size).append("()->box S")
                .append(size).append("{return box new S").append(size).append('{').append(values).append("};}fn d")
                .append(size).append("(b:box S").append(size).append("){}");
        }
        return all.toString();
    }

    private static OwnedPlaces heap(int cells, String text, int fault, int inUse, int most) {
        OwnedPlaces x = Check.fed(cells, text);
        Check.due("fault of " + text, x.run(text.length(), 500), fault);
        Check.due("place in " + text, x.place(), -1);
        Check.due("cells of " + text, x.count(1), inUse);
        Check.due("most cells of " + text, x.count(2), most);
        return x;
    }

    /** So many cells to the heap's very end, and one more. */
    private static void roomOfOneBlock() {
        String s = structs(8);
        for (int cells = 16; cells <= 24; cells++) {
            int rest = cells - 16;
            String sixteen = "let a=m8();let b=m8();";
            if (rest > 0) {
                heap(cells, s + main(sixteen + "let c=m" + rest + "();"), 0, 0, cells);
                heap(cells, s + main(sixteen + "let c=m" + rest + "();let d=m1();"), 9, cells, cells);
            }
            if (rest < 8) {
                heap(cells, s + main(sixteen + "let c=m" + (rest + 1) + "();"), 9, 16, 16);
            }
        }
        // First the exp, then the block: what the exp took apart is free by then.
        heap(16, s + main("let a=m8();let b=m8();let c=box *b;"), 0, 0, 16);
        heap(16, s + main("let a=m8();let b=m8();let c=box b;"), 9, 16, 16);
    }

    private static void roomSideBySide() {
        String s = structs(6);
        // 4 + 4 + 4 + 4 cells, of which the second and the last, or the second and the third are free.
        String four = "let a=m4();let b=m4();let c=m4();let d=m4();";
        heap(16, s + main(four + "d4(b);d4(d);let e=m4();let f=m4();"), 0, 0, 16);
        heap(16, s + main(four + "d4(b);d4(d);let e=m5();"), 9, 8, 16);
        heap(16, s + main(four + "d4(b);d4(c);let e=m5();let f=m3();"), 0, 0, 16);
        heap(16, s + main(four + "d4(b);d4(c);let e=m5();let f=m4();"), 9, 13, 16);
        // The lowest place where it fits, not the one that fits best.
        heap(16, s + main(four + "d4(a);d4(b);d4(d);let e=m4();let f=m4();let g=m4();"), 0, 0, 16);
        heap(16, s + main(four + "d4(a);d4(b);d4(d);let e=m3();let f=m6();"), 9, 7, 16);
        heap(16, s + main(four + "d4(a);d4(b);d4(d);let e=m2();let f=m6();let g=m4();"), 0, 0, 16);
        heap(16, s + main(four + "d4(b);d4(d);let e=m1();let f=m3();let g=m4();"), 0, 0, 16);
        heap(16, s + main(four + "d4(b);d4(d);let e=m1();let f=m4();let g=m3();"), 0, 0, 16);
        heap(16, s + main(four + "d4(b);d4(d);let e=m1();let f=m4();let g=m4();"), 9, 13, 16);
    }

    /** Blocks that come and go, beside a row of marks that does the same. */
    private static void roomAtRandom() {
        String s = structs(5);
        for (int i = 0; i < 600; i++) {
            int cells = 16 + random(9);
            boolean[] marks = new boolean[cells];
            List<int[]> open = new ArrayList<>();
            StringBuilder body = new StringBuilder();
            int inUse = 0;
            int most = 0;
            int fault = 0;
            for (int k = 0; k < 38 && fault == 0; k++) {
                if (open.size() > 0 && random(5) < 2) {
                    int[] gone = open.remove(random(open.size()));
                    body.append('d').append(gone[1]).append("(v").append(gone[2]).append(");");
                    mark(marks, gone[0], gone[1], false);
                    inUse -= gone[1];
                } else {
                    int size = 1 + random(5);
                    int at = firstFit(marks, size);
                    body.append("let v").append(k).append("=m").append(size).append("();");
                    if (at < 0) {
                        fault = 9;
                    } else {
                        mark(marks, at, size, true);
                        open.add(new int[] {at, size, k});
                        inUse += size;
                        most = Math.max(most, inUse);
                    }
                }
            }
            heap(cells, s + main(body.toString()), fault, fault == 0 ? 0 : inUse, most);
        }
    }

    private static int firstFit(boolean[] marks, int size) {
        for (int at = 0; at + size <= marks.length; at++) {
            boolean isFree = true;
            for (int i = at; i < at + size; i++) {
                isFree = isFree && !marks[i];
            }
            if (isFree) {
                return at;
            }
        }
        return -1;
    }

    private static void mark(boolean[] marks, int at, int size, boolean taken) {
        for (int i = at; i < at + size; i++) {
            marks[i] = taken;
        }
    }

    /** All cells are free when a run begins, and those of what is dropped or taken apart at once. */
    private static void roomComesBack() {
        String s = structs(8);
        OwnedPlaces x = new OwnedPlaces(16);
        String[] texts = {s + main("let a=m8();let b=m8();print 1/0;"), s + main("let a=m8();let b=m8();let c=m1();"),
            s + main("let a=m8();let b=m8();while true{}")};
        int[] faults = {7, 9, 8};
        for (int round = 0; round < 3; round++) {
            for (int i = 0; i < texts.length; i++) {
                Check.feed(x, texts[i]);
                Check.due("fault", x.run(texts[i].length(), 60), faults[i]);
                Check.due("cells", x.count(1), 16);
                Check.due("most", x.count(2), 16);
            }
            String good = s + main("m8();m8();m8();let a=m8();let b=*a;let c=m8();let mut d=m8();d8(d);d=m8();{let e=*c;let f=m8();}");
            Check.feed(x, good);
            Check.due("good", x.run(good.length(), 60), 0);
            Check.due("cells", x.count(1), 0);
            Check.due("most", x.count(2), 16);
        }
        // The new box is there before the old one is dropped.
        heap(16, s + main("let mut a=m8();a=m8();"), 0, 0, 16);
        heap(16, s + main("let mut a=m8();let b=m1();a=m8();"), 9, 9, 9);
        heap(16, s + main("let mut a=m8();let b=m1();d8(a);a=m8();"), 0, 0, 9);
    }

    // ==== input that has come to its end

    private static void inputAtItsEnd() {
        String text = main("print read;print read+read;print read==0;");
        for (int total = 0; total <= 5; total++) {
            OwnedPlaces x = Check.fed(500, text);
            for (int i = 1; i <= total; i++) {
                x.input(-10 * i);
            }
            Check.due("run with " + total, x.run(text.length(), 9), 0);
            int first = total >= 1 ? -10 : 0;
            int sum = (total >= 2 ? -20 : 0) + (total >= 3 ? -30 : 0);
            Check.due("written with " + total, Check.fetchAll(x), first + "\n" + sum + "\n" + (total < 4) + "\n");
            Check.state("with " + total, x, -1, 5, 0, 0, 0, 0, Math.max(total - 4, 0));
        }
        OwnedPlaces y = Check.fed(500, main("read/read;"));
        y.input(5);
        Check.due("by the end", y.run(21, 9), 7);
    }

    // ==== dropped are only parts that have a value

    private static void partsWithAValue() {
        String s = "struct T{a:token,b:token,c:token}fn g(t:token){}";
        // Each of three parts is moved, or not, by what is read, and set again, or not.
        String body = "let mut t=new T{a:token(1),b:token(2),c:token(3)};if read==1{g(t.a);}if read==1{g(t.b);}if read==1{g(t.c);}"
            + "print 0;if read==1{t.a=token(4);}if read==1{t.b=token(5);}if read==1{t.c=token(6);}print 9;";
        String text = s + main(body);
        for (int bits = 0; bits < 64; bits++) {
            OwnedPlaces x = Check.fed(500, text);
            StringBuilder due = new StringBuilder();
            StringBuilder set = new StringBuilder();
            StringBuilder last = new StringBuilder();
            for (int i = 0; i < 6; i++) {
                x.input(bits >> i & 1);
            }
            for (int i = 0; i < 3; i++) {
                boolean isMoved = (bits >> i & 1) == 1;
                boolean isSet = (bits >> i + 3 & 1) == 1;
                due.append(isMoved ? "d" + (i + 1) + "\n" : "");
                set.append(isSet && !isMoved ? "d" + (i + 1) + "\n" : "");
                last.append(isSet ? "d" + (i + 4) + "\n" : isMoved ? "" : "d" + (i + 1) + "\n");
            }
            Check.due("run with " + bits, x.run(text.length(), 99), 0);
            Check.due("written with " + bits, Check.fetchAll(x), due + "0\n" + set + "9\n" + last);
        }
    }
}
