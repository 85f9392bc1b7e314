/** The boundaries that 'Terms' names for types: sizes, what is in itself, four steps on a place, main. */
public final class TypeEdgeTest {
    public static void main(String[] args) {
        structSizes();
        enumSizes();
        sizesInOrder();
        sixteenCellsAtWork();
        inItself();
        inItselfByOthers();
        rings();
        mainFunction();
        itemsTwice();
        fourSteps();
        fiveStepsElsewhere();
        howMany();
        oneMissing();
        Check.end();
    }

    private static String main(String body) {
        return "fn main(){" + body + "}";
    }

    /** A struct of so many cells, at most 12. */
    private static String struct(String name, int cells) {
        StringBuilder all = new StringBuilder("struct " + name + "{");
        String[] types = {"int", "bool", "token", "box int"};
        for (int i = 0; i < cells; i++) {
            all.append(i == 0 ? "" : ",").append('a').append(i).append(':').append(types[i % 4]);
        }
        return all + "}";
    }

    // ==== SIZES: at most 16

    private static void structSizes() {
        for (int left = 1; left <= 11; left++) {
            for (int right = Math.max(1, 14 - left); right <= 12 && left + right <= 19; right++) {
                String parts = struct("A", left) + struct("B", right);
                if (left + right <= 16) {
                    Check.fine("struct S{a:A,b:B}" + parts + main(""));
                    Check.fine(parts + "struct S{a:A,b:B}" + main(""));
                } else {
                    Check.fault(4, "struct @S{a:A,b:B}" + parts + main(""));
                    Check.fault(4, parts + "struct @S{a:A,b:B}" + main(""));
                }
            }
        }
        // Eleven of one cell, and one more field.
        Check.fine(struct("A", 5) + struct("S", 11).replace("}", ",z:A}") + main(""));
        Check.fault(4, struct("A", 6) + struct("@S", 11).replace("}", ",z:A}") + main(""));
        // A box is one cell, whatever is in it.
        Check.fine(struct("A", 12) + "struct B{a:A,b:box A,c:box B,d:box B,e:box A}" + main(""));
        Check.fault(4, struct("A", 12) + "struct @B{a:A,b:box A,c:box B,d:box B,e:box A,f:box box A}" + main(""));
    }

    private static void enumSizes() {
        for (int cells = 13; cells <= 18; cells++) {
            String parts = struct("A", 12) + struct("B", cells - 12);
            String[] variants = {"V(A,B)", "V(A,B),W", "W,V(A,B)", "W(A),V(A,B),X(B)", "V(B,A),W(int)", "X,W(B,B),V(A,B)"};
            for (String row : variants) {
                // The enum's own cell is one of the 16.
                boolean fits = cells + 1 <= 16;
                String text = parts + "enum @E{" + row + "}" + main("");
                if (fits) {
                    Check.fine(text.replace("@", ""));
                } else {
                    Check.fault(4, text);
                }
            }
        }
        Check.fine("enum E{A(" + Check.times(11, "int,") + "F)}" + struct("F", 4) + main(""));
        Check.fault(4, "enum @E{A(" + Check.times(11, "int,") + "F)}" + struct("F", 5) + main(""));
        // An enum without parts is one cell.
        Check.fine("enum E{A,B}struct F{a:E,b:E,c:E,d:E,e:E}" + struct("S", 11).replace("}", ",x:F}") + main(""));
        Check.fault(4, "enum E{A,B}struct F{a:E,b:E,c:E,d:E,e:E,f:E}" + struct("@S", 11).replace("}", ",x:F}") + main(""));
    }

    private static void sizesInOrder() {
        String big = struct("A", 9);
        Check.fault(4, big + "struct @B{a:A,b:A}struct C{a:A,b:A}" + main(""));
        Check.fault(4, big + "struct @C{b:B}struct B{a:A,b:A}" + main(""));
        Check.fault(4, big + "struct C{b:box B}struct @B{a:A,b:A}" + main(""));
        Check.fault(4, big + "enum @C{V(B)}struct B{a:A,b:A}" + main(""));
        Check.fault(4, big + "struct @B{a:A,b:A}struct C{c:C}" + main(""));
        Check.fault(4, big + "struct @C{c:C}struct B{a:A,b:A}" + main(""));
        // A type that is at fault within is told ahead of all sizes.
        Check.fault(3, big + "struct B{a:A,b:A}struct C{a:@X}" + main(""));
        Check.fault(4, big + "struct B{a:A,b:A}fn f(a:box @&int){}" + main(""));
        Check.fault(4, big + "struct @B{a:A,b:A}fn main(a:int){}");
        // Twice as much at each step: 2, 4, 8, 16, 32.
        String doubles = "struct A{a:int,b:int}struct B{a:A,b:A}struct C{a:B,b:B}struct D{a:C,b:C}";
        Check.fine(doubles + main(""));
        Check.fault(4, doubles + "struct @E{a:D,b:D}" + main(""));
        StringBuilder huge = new StringBuilder(doubles + "struct @E0{a:D,b:D}");
        for (int i = 0; i < 25; i++) {
            huge.append("struct E").append(i + 1).append("{a:E").append(i).append(",b:E").append(i).append('}');
        }
        Check.fault(4, huge + main(""));
    }

    /** Values of 16 cells are moved, boxed, given, taken back and dropped as others are. */
    private static void sixteenCellsAtWork() {
        String s = "struct F{a:int,b:int,c:token,d:int}struct S{a:F,b:F,c:F,d:F}fn f(n:int)->F{return new F{a:n,b:n+1,"
            + "c:token(n),d:n+2};}fn s(n:int)->S{return new S{a:f(n),b:f(n+10),c:f(n+20),d:f(n+30)};}fn id(s:S)->S{return s;}";
        String text = s + main("let b=box s(1);let c=id(*b);print c.a.a;print c.d.d;let d=box c;print (*d).b.b;let e=*d;"
            + "print e.c.d;");
        OwnedPlaces x = Check.fed(16, text);
        Check.due("run", x.run(text.length(), 200), 0);
        Check.due("written", Check.fetchAll(x), "1\n33\n12\n23\nd1\nd11\nd21\nd31\n");
        Check.due("most", x.count(2), 16);
        Check.due("in use", x.count(1), 0);
        text = s + main("let b=box s(1);print 5;let c=box 1;");
        Check.feed(x, text);
        Check.due("no room", x.run(text.length(), 200), 9);
        Check.due("in use", x.count(1), 16);
        Check.due("written", Check.fetchAll(x), "5\n");
        text = s + "enum E{N,V(F,F,F,int,int,int)}" + main("let e=E::V(f(1),f(2),f(3),7,8,9);match &e{N=>{}V(x,y,z,u,v,w)=>"
            + "{print (*z).d+*u+*v+*w;}}let b=box e;match *b{N=>{}V(x,y,z,u,v,w)=>{print z.d+w;}}");
        Check.feed(x, text);
        Check.due("run of an enum", x.run(text.length(), 200), 0);
        Check.due("written", Check.fetchAll(x), "29\n14\nd3\nd2\nd1\n");
        Check.due("most of an enum", x.count(2), 16);
    }

    // ==== a struct or enum that is in itself

    private static void inItself() {
        Check.fault(4, "struct @A{a:A}" + main(""));
        Check.fault(4, "struct @A{a:int,b:A}" + main(""));
        Check.fine("struct A{a:box A}" + main(""));
        Check.fine("struct A{a:box box A,b:box A}" + main(""));
        Check.fault(4, "struct @A{a:box A,b:A}" + main(""));
        Check.fault(4, "enum @A{B(A)}" + main(""));
        Check.fault(4, "enum @A{B,C(int,A)}" + main(""));
        Check.fine("enum A{B(box A)}" + main(""));
        Check.fine("enum A{B(box A),C(int,box A,box box A)}" + main(""));
        Check.fault(4, "enum @A{B(box A),C(int,box A,A)}" + main(""));
    }

    private static void inItselfByOthers() {
        Check.fault(4, "struct @A{a:B}struct B{a:A}" + main(""));
        Check.fault(4, "struct @A{a:B}enum B{N,V(A)}" + main(""));
        Check.fault(4, "enum @A{N,V(B)}struct B{a:A}" + main(""));
        Check.fine("struct A{a:B}struct B{a:box A}" + main(""));
        Check.fine("struct A{a:box B}struct B{a:A}" + main(""));
        Check.fine("enum A{N,V(B)}struct B{a:box A}" + main(""));
        // One that has such a one in it is at fault as well, and told if it comes first.
        Check.fault(4, "struct @A{a:B}struct B{a:B}" + main(""));
        Check.fault(4, "struct @B{a:B}struct A{a:B}" + main(""));
        Check.fault(4, "struct A{a:box B}struct @B{a:B}" + main(""));
        Check.fault(4, "struct @A{a:C}struct B{a:B}struct C{a:B}" + main(""));
        Check.fault(4, "struct C{a:int}struct @A{c:C,a:D}struct D{b:B}enum B{N,V(B)}" + main(""));
        // Two ways to one that is in none are no fault.
        Check.fine("struct A{a:B,b:C}struct B{a:D}struct C{a:D,b:B}struct D{a:int}" + main(""));
    }

    private static void rings() {
        for (int total = 2; total <= 30; total += 7) {
            StringBuilder ring = new StringBuilder();
            StringBuilder chain = new StringBuilder();
            StringBuilder back = new StringBuilder();
            StringBuilder boxed = new StringBuilder();
            for (int i = 0; i < total; i++) {
                int next = (i + 1) % total;
                ring.append("struct ").append(i == 0 ? "@" : "").append("s").append(i).append("{a:s").append(next).append('}');
                chain.append("struct s").append(i).append("{a:").append(next == 0 ? "int" : "s" + next).append('}');
                back.append("struct s").append(i).append("{a:").append(i == 0 ? "int" : "s" + (i - 1)).append('}');
                boxed.append("struct s").append(i).append("{a:").append(next == 0 ? "box " : "").append("s").append(next)
                    .append('}');
            }
            Check.fault(4, ring + main(""));
            Check.fine(chain + main(""));
            Check.fine(back + main(""));
            Check.fine(boxed + main(""));
            Check.fault(4, chain.toString().replace("int", "s" + (total - 1)).replace("struct s0{", "struct @s0{") + main(""));
            Check.fault(4, back.toString().replace("int", "s0").replace("struct s0{", "struct @s0{") + main(""));
        }
    }

    // ==== main, and names of items

    private static void mainFunction() {
        Check.fine("fn main(){}");
        Check.fine("fn f(){}fn main(){}fn g(){}");
        Check.fault(3, "fn Main(){}fn main_(){}fn mai(){}@");
        Check.fault(3, "enum main{A}@");
        Check.fault(4, "fn @main(a:int){}");
        Check.fault(4, "fn @main(a:&int){}");
        Check.fault(4, "fn @main<'a>(){}");
        Check.fault(4, "fn @main()->int{return 1;}");
        Check.fault(4, "fn @main()->int{}");
        Check.fault(4, "fn f(){y;}fn @main<'a>(x:&'a int)->&'a int{return x;}");
        Check.fault(3, "fn main(a:@X){}");
    }

    private static void itemsTwice() {
        String[] firsts = {"struct A{a:int}", "enum A{B}", "fn A(){}"};
        String[] seconds = {"struct @A{b:X}", "enum @A{C(X)}", "fn @A(x:X)->Y{z;}"};
        for (String first : firsts) {
            for (String second : seconds) {
                Check.fault(3, first + second + main(""));
                Check.fault(3, first + main("") + second);
                Check.fault(3, first + second + second.replace("@", "") + main(""));
            }
        }
    }

    // ==== more than 4 members and stars on one another

    private static String declared;
    private static String made;
    private static String walked;
    private static String marked;

    /** Types, a value and a way to it by so many steps: a bit is 1 for a star, 0 for a member. */
    private static void walk(int steps, int bits) {
        StringBuilder all = new StringBuilder();
        String type = "int";
        made = "7";
        for (int k = steps - 1; k >= 0; k--) {
            if ((bits >> k & 1) == 1) {
                type = "box " + type;
                made = "box " + made;
            } else {
                all.append("struct S").append(k).append("{a:").append(type).append('}');
                type = "S" + k;
                made = "new S" + k + "{a:" + made + "}";
            }
        }
        declared = all.toString();
        walked = "v";
        for (int k = 0; k < steps; k++) {
            boolean isStar = (bits >> k & 1) == 1;
            marked = isStar ? "@*" + walked : walked + ".@a";
            walked = isStar ? "(*" + walked + ")" : walked + ".a";
        }
    }

    private static void fourSteps() {
        for (int bits = 0; bits < 16; bits++) {
            walk(4, bits);
            Check.writes(declared + main("let v=" + made + ";print " + walked + ";"), "7\n");
            Check.writes(declared + main("let mut v=" + made + ";" + walked + "=8;let r=&mut " + walked + ";*r=*r+1;print "
                + walked + ";"), "9\n");
        }
        for (int bits = 0; bits < 32; bits++) {
            walk(5, bits);
            Check.fault(4, declared + main("let v=" + made + ";print " + marked + ";"));
            Check.fault(4, declared + main("let mut v=" + made + ";" + marked + "=8;"));
            Check.fault(4, declared + main("let v=" + made + ";let r=&" + marked + ";"));
            Check.fault(4, declared + main("let v=" + made + ";let w=box " + marked + ";"));
            if (marked.endsWith("@a")) {
                Check.fault(3, declared + main("let v=" + made + ";print " + marked.replace("@a", "@b") + ";"));
            }
        }
        // The star of a reference is a step as well.
        for (int bits = 0; bits < 8; bits++) {
            walk(3, bits);
            String way = walked.replace("v", "(*v)");
            Check.writes(declared + main("let w=" + made + ";let v=&w;print " + way + ";"), "7\n");
            walk(4, bits | 8);
            way = marked.replace("v", "(*v)");
            Check.fault(4, declared + main("let w=" + made + ";let v=&w;print " + way + ";"));
            walk(4, bits);
            way = marked.replace("v", "(*v)");
            Check.fault(4, declared + main("let w=" + made + ";let v=&w;print " + way + ";"));
        }
    }

    private static void fiveStepsElsewhere() {
        String e = "enum E{A}struct S{e:E}struct T{s:S}struct U{t:T}struct V{u:U}struct W{v:V}";
        Check.fine(e + "fn f(v:V){match &v.u.t.s.e{A=>{}}}" + main(""));
        Check.fault(4, e + "fn f(w:W){match &w.v.u.t.s.@e{A=>{}}}" + main(""));
        Check.fault(3, e + "fn f(w:W){match &w.v.u.t.s.@x{A=>{}}}" + main(""));
        Check.fine(e + "fn f(v:V){match v.u.t.s.e{A=>{}}}" + main(""));
        Check.fault(4, e + "fn f(w:W){match w.v.u.t.s.@e{A=>{}}}" + main(""));
        // A member of what is no struct is at fault as a member, wherever it stands.
        Check.fault(4, e + "fn f(v:V){v.u.t.s.e.@x;}" + main(""));
        Check.fault(4, main("let b=box box box box 1;print @*****b;"));
        Check.fault(4, main("let b=box box box 1;print @****b;"));
        // The fifth is told, though there are more of them.
        Check.fault(4, main("let b=" + Check.times(8, "box ") + "1;print **@*****b;"));
        // What was read by four steps is another place then.
        Check.writes(main("let b=" + Check.times(8, "box ") + "3;let c=&****b;let d=&***c;print ***d;"), "3\n");
    }

    // ==== how many there are

    private static void howMany() {
        for (int asked = 0; asked <= 12; asked += 3) {
            StringBuilder parameters = new StringBuilder();
            for (int i = 0; i < asked; i++) {
                parameters.append(i == 0 ? "" : ",").append('p').append(i).append(":int");
            }
            String types = parameters.toString().replaceAll("p[0-9]*:", "");
            String e = "enum E{A" + (asked == 0 ? "" : "(" + types + ")") + "}fn f(" + parameters + "){}";
            for (int given = Math.max(asked - 1, 0); given <= asked + 1; given++) {
                String exps = given == 0 ? "" : Check.times(given - 1, "1,") + "1";
                String brackets = given == 0 ? "" : "(" + exps + ")";
                String names = given == 0 || given > 12 ? "" : "(" + Check.times(given - 1, "x,") + "x)";
                if (given == asked) {
                    Check.fine(e + main("f(" + exps + ");let e=E::A" + brackets + ";match e{A" + names + "=>{}}"));
                } else {
                    Check.fault(4, e + main("@f(" + exps + ");"));
                    Check.fault(4, e + main("@E::A" + brackets + ";"));
                    Check.fault(4, e + "fn g(e:E){match e{@A" + names + "=>{}}}" + main(""));
                }
            }
        }
    }

    private static void oneMissing() {
        String e = "enum E{A,B,C,D,F,G,H,I,J,K,L,M}";
        String s = "struct S{A:int,B:int,C:int,D:int,F:int,G:int,H:int,I:int,J:int,K:int,L:int,M:int}";
        String names = "ABCDFGHIJKLM";
        for (int missing = 0; missing <= 12; missing++) {
            StringBuilder arms = new StringBuilder();
            StringBuilder fields = new StringBuilder();
            for (int i = 0; i < 12; i++) {
                if (i != missing) {
                    arms.append(names.charAt(i)).append("=>{}");
                    fields.append(fields.length() == 0 ? "" : ",").append(names.charAt(i)).append(":1");
                }
            }
            if (missing == 12) {
                Check.fine(e + "fn f(e:E){match e{" + arms + "}}" + main(""));
                Check.fine(s + main("new S{" + fields + "};"));
                Check.fault(3, e + "fn f(e:E){match e{" + arms + "@A=>{}}}" + main(""));
                Check.fault(3, e + "fn f(e:E){match e{" + arms + "@N=>{}}}" + main(""));
                Check.fault(3, s + main("new S{" + fields + ",@M:y};"));
                Check.fault(3, s + main("new S{" + fields + ",@N:y};"));
            } else {
                Check.fault(4, e + "fn f(e:E){@match e{" + arms + "}}" + main(""));
                Check.fault(4, s + main("@new S{" + fields + "};"));
            }
        }
    }
}
