/** The boundaries that 'Terms' names for texts: bytes, names, lives, numbers, and every limit, on both sides. */
public final class TextEdgeTest {
    private static long seed = 1126;

    public static void main(String[] args) {
        bytesAlone();
        bytesInComments();
        comments();
        names();
        lives();
        numbers();
        matchTakesItsBorrow();
        shapes();
        functions();
        fields();
        variants();
        parts();
        parameters();
        armNames();
        functionLives();
        variables();
        noLimit();
        blocks();
        exps();
        rightSides();
        types();
        mixedNesting();
        members();
        borrows();
        oneTokenTwoFaults();
        Check.end();
    }

    private static String main(String body) {
        return "fn main(){" + body + "}";
    }

    /** So many of them, numbered, with commas between. */
    private static String row(int total, String ahead, String behind) {
        StringBuilder all = new StringBuilder();
        for (int i = 0; i < total; i++) {
            all.append(i == 0 ? "" : ",").append(ahead).append(i).append(behind);
        }
        return all.toString();
    }

    // ==== TEXTS

    private static boolean isAllowed(int c) {
        return c == 9 || c == 10 || c == 13 || c >= 32 && c <= 126;
    }

    private static void bytesAlone() {
        for (int c = 0; c < 256; c++) {
            String one = String.valueOf((char) c);
            boolean isBlank = c == 9 || c == 10 || c == 13 || c == 32;
            if (c == '@') {
                OwnedPlaces x = Check.fed(500, main("") + "@");
                Check.due("fault of @", x.run(12, 5), 1);
                Check.state("of @", x, 11, 5, 0, 0, 0, 0, 0);
            } else if (isBlank) {
                Check.fine(main("") + one);
                Check.writes("fn" + one + "main" + one + "(" + one + "){print" + one + "-" + one + "1;}", "-1\n");
            } else {
                // No single byte is an item; one that begins no token is SYNTAX at once.
                boolean isLetter = c >= 'a' && c <= 'z' || c >= 'A' && c <= 'Z' || c == '_';
                Check.fault(1, main("") + "@" + one);
                if (!isLetter && "{};!-*&('0123456789".indexOf(c) < 0) {
                    Check.fault(1, main("@" + one));
                }
            }
        }
    }

    private static void bytesInComments() {
        for (int c = 0; c < 256; c++) {
            String one = String.valueOf((char) c);
            if (isAllowed(c)) {
                if (c != '@') {
                    Check.writes("//" + one + one + "\n" + main("print 1;//" + one + "\n") + "//" + one, "1\n");
                }
            } else {
                Check.fault(1, "//@" + one + "\n" + main(""));
                Check.fault(1, "// a comment @" + one);
                Check.fault(1, main("print 1;// and ' # ? @" + one + "\n"));
                Check.fault(1, main("") + "//@" + one + one);
            }
        }
    }

    private static void comments() {
        Check.fine(main("") + "//");
        Check.fine(main("") + "///");
        Check.fine("//\n" + main("//}\n"));
        Check.fine("//\r//\t//\n" + main(""));
        Check.writes(main("print 6//2;\n;print 1;"), "6\n1\n");
        Check.fault(1, main("print 1;//}") + "@");
        Check.fault(1, main("//\r") + "@");
        Check.fault(1, main("print 6/ @/2;"));
        // A comment ends what stands ahead of it; it does not join.
        Check.fault(1, main("let ab//\n@cd=1;"));
        Check.fault(1, main("print 1//\n@2;"));
    }

    private static void names() {
        String twenty = "abcdefghij_BCDEFGH09";
        String other = "abcdefghij_BCDEFGH08";
        String longer = twenty + "x";
        Check.due("length", twenty.length(), 20);
        // All twenty bytes tell.
        Check.writes(main("let " + twenty + "=1;let " + other + "=2;print " + twenty + ";print " + other + ";"), "1\n2\n");
        Check.fault(3, main("let " + twenty + "=1;print @" + other + ";"));
        Check.fault(3, "fn " + twenty + "(){}fn " + other + "(){}fn @" + twenty + "(){}" + main(""));
        String all = "struct " + twenty + "{" + other + ":int}enum e{" + twenty + "(int)}fn " + other + "(" + twenty + ":int)"
            + "->int{return " + twenty + ";}";
        Check.writes(all + main("let x=new " + twenty + "{" + other + ":7};print x." + other + "+" + other + "(1);"
            + "match e::" + twenty + "(5){" + twenty + "(" + other + ")=>{print " + other + ";}}"), "8\n5\n");
        String[] ends = {"x", "_", "0", "X", "xx", Check.times(100, "y")};
        for (String end : ends) {
            String name = twenty + end;
            Check.fault(1, "struct @" + name + "{a:int}" + main(""));
            Check.fault(1, "struct S{@" + name + ":int}" + main(""));
            Check.fault(1, "struct S{a:@" + name + "}" + main(""));
            Check.fault(1, "enum @" + name + "{A}" + main(""));
            Check.fault(1, "enum E{@" + name + "}" + main(""));
            Check.fault(1, "fn @" + name + "(){}" + main(""));
            Check.fault(1, "fn f(@" + name + ":int){}" + main(""));
            Check.fault(1, main("let @" + name + "=1;"));
            Check.fault(1, main("print @" + name + ";"));
            Check.fault(1, main("x.@" + name + ";"));
            Check.fault(1, main("E::@" + name + ";"));
            Check.fault(1, main("new P{@" + name + ":1};"));
            Check.fault(1, main("match x{@" + name + "=>{}}"));
            Check.fault(1, main("match x{A(@" + name + ")=>{}}"));
            // Even where no name may stand.
            Check.fault(1, main("print 1 @" + name));
        }
        Check.fault(1, "@" + longer);
        Check.fault(1, main("let @" + Check.times(21, "_") + "=1;"));
        Check.fine(main("let " + Check.times(20, "_") + "=1;"));
        Check.fault(1, "@" + Check.times(3000, "a"));
        // A word with something behind it is a name, and a word within one is none.
        Check.fine(main("let struct_=1;let _fn=2;let let1=3;let Mut=4;let iff=5;let els=6;let boolint=7;"));
    }

    private static void lives() {
        String twenty = "abcdefghij_BCDEFGH09";
        Check.fine("fn f<'" + twenty + ">(a:&'" + twenty + " int){}" + main(""));
        Check.fault(1, "fn f<@'" + twenty + "x>(){}" + main(""));
        Check.fault(1, "fn f<'a>(a:&@'" + twenty + "x int){}" + main(""));
        Check.fine("fn f<'a,'A,'_,'a1,'_1>(){}" + main(""));
        Check.fault(1, "fn f<'a,@'9>(){}" + main(""));
        Check.fault(1, "fn f<'a,@'\n b>(){}" + main(""));
        Check.fault(1, "fn f<'a,@''b>(){}" + main(""));
        Check.fault(1, "fn f<'a,@'//\nb>(){}" + main(""));
        Check.fault(1, "fn f<'a,@'");
        String[] words = {"struct", "fn", "let", "mut", "int", "bool", "token", "box"};
        for (String word : words) {
            Check.fault(1, "fn f<@'" + word + ">(){}" + main(""));
            Check.fine("fn f<'" + word + "_>(){}" + main(""));
        }
    }

    private static void numbers() {
        String most = "9223372036854775807";
        Check.writes(main("print " + most + ";print -" + most + ";print " + most + "-1;"),
            most + "\n-" + most + "\n9223372036854775806\n");
        String[] tooLarge = {"9223372036854775808", "9223372036854775809", "9223372036854775810", "9223372036854776000",
            "9999999999999999999", "10000000000000000000", "18446744073709551615", "18446744073709551616",
            "92233720368547758070", "36893488147419103232", Check.times(500, "9"), "1" + Check.times(500, "0")};
        for (String number : tooLarge) {
            Check.fault(1, main("print @" + number + ";"));
            Check.fault(1, main("print -@" + number + ";"));
            Check.fault(1, main("print @000" + number + ";"));
            Check.fault(1, "@" + number);
        }
        String zeros = Check.times(2900, "0");
        Check.writes(main("print " + zeros + ";"), "0\n");
        Check.writes(main("print " + zeros + most + ";"), most + "\n");
        Check.writes(main("print " + zeros + "7;print 07;print 00;"), "7\n7\n0\n");
        Check.fault(1, main("print @" + zeros + "9223372036854775808;"));
        String[] behind = {"a", "Z", "_", "x1", "else", "_0"};
        for (String letter : behind) {
            Check.fault(1, main("print @0" + letter + ";"));
            Check.fault(1, main("print @12" + letter + ";"));
            Check.fault(1, main("print @" + most + letter + ";"));
        }
        Check.fault(1, main("if true{print 1;}else{print @2else}"));
        // A number may stand close to all but letters.
        Check.writes(main("print(1)+1;print-1;print 1==1;print 1-1;"), "2\n-1\ntrue\n0\n");
        Check.fault(1, main("print 1@'a;"));
    }

    // ==== GRAMMAR

    private static void matchTakesItsBorrow() {
        String e = "enum E{A(int)}";
        Check.writes(e + main("let x=E::A(1);match &x{A(y)=>{print *y;}}"), "1\n");
        Check.writes(e + main("let mut x=E::A(1);match &mut x{A(y)=>{*y=5;}}match & (x){A(y)=>{print *y;}}"), "5\n");
        Check.fault(1, e + main("let x=E::A(1);match &x+1@{}"));
        Check.fault(1, e + main("match &E::A(1)@{A(y)=>{}}"));
        Check.fault(1, e + main("let x=E::A(1);match & &x@{}"));
        Check.fault(1, e + main("let x=E::A(1);match & box x@{}"));
        Check.fault(1, e + main("let x=1;match &x.@1{}"));
        Check.fault(1, e + main("let x=1;match &x @;"));
        Check.fault(4, e + main("let x=E::A(1);match @(&x){A(y)=>{}}"));
    }

    // ==== LIMITS: the last one that is allowed, and the one too much

    private static String items(int total, String ahead, String behind) {
        StringBuilder all = new StringBuilder();
        for (int i = 0; i < total; i++) {
            all.append(ahead).append(i).append(behind);
        }
        return all.toString();
    }

    private static void shapes() {
        for (int structs = 0; structs <= 30; structs += 10) {
            String all = items(structs, "struct s", "{a:int}") + items(30 - structs, "enum e", "{A}");
            Check.writes(all + main("print 1;"), "1\n");
            Check.fault(2, all + "@struct S{a:int}" + main(""));
            Check.fault(2, all + "@enum E{A}" + main(""));
            Check.fault(2, all + main("") + "@struct");
            Check.fault(2, main("x;") + all + "@enum 5");
        }
        String last = items(29, "struct s", "{a:int}") + "enum e{A(s0,s28)}";
        Check.writes(last + main("match e::A(new s0{a:1},new s28{a:2}){A(x,y)=>{print x.a+y.a;}}"), "3\n");
    }

    private static void functions() {
        String others = items(39, "fn f", "(){}");
        Check.writes(others + main("f0();f38();print 1;"), "1\n");
        Check.fault(2, others + main("") + "@fn f39(){}");
        Check.fault(2, others + main("") + "@fn");
        Check.fault(2, others + "fn f39(){}@" + main(""));
        // Shapes and functions are counted on their own.
        Check.fine(items(30, "enum e", "{A}") + others + main(""));
    }

    private static void fields() {
        String twelve = row(12, "a", ":int");
        Check.writes("struct S{" + twelve + "}" + main("let s=new S{" + row(12, "a", ":1") + "};print s.a0+s.a11;"), "2\n");
        Check.fault(2, "struct S{" + twelve + ",@b:int}" + main(""));
        Check.fault(2, "struct S{" + twelve + ",@a0:int}" + main(""));
        Check.fault(2, "struct S{" + twelve + ",@b 5");
        Check.fault(1, "struct S{" + twelve + ",@}" + main(""));
        Check.fault(1, "struct S{" + twelve + "@:int}" + main(""));
    }

    private static void variants() {
        String twelve = row(12, "A", "");
        Check.writes("enum E{" + twelve + "}" + main("match E::A11{" + items(12, "A", "=>{print 1;}") + "}"), "1\n");
        Check.fault(2, "enum E{" + twelve + ",@B}" + main(""));
        Check.fault(2, "enum E{" + twelve + ",@A0}" + main(""));
        Check.fault(1, "enum E{" + twelve + ",@}" + main(""));
        Check.fault(2, "enum E{" + row(12, "A", "(int)") + ",@B(}" + main(""));
    }

    private static void parts() {
        String[] thirteenth = {"int", "bool", "token", "E", "box int", "&int", "Nobody"};
        String twelve = Check.times(11, "int,") + "int";
        Check.writes("enum E{A(" + twelve + ")}" + main("match E::A(" + row(12, "10", "") + "){A(" + row(12, "x", "")
            + ")=>{print x0;print x11;}}"), "100\n1011\n");
        for (String type : thirteenth) {
            Check.fault(2, "enum E{A(" + twelve + ",@" + type + ")}" + main(""));
        }
        Check.fault(1, "enum E{A(" + twelve + ",@)}" + main(""));
        Check.fault(1, "enum E{A(" + twelve + ",@5)}" + main(""));
        Check.fault(1, "enum E{A(" + twelve + ",@'a)}" + main(""));
        // Each variant has its own.
        Check.fine("enum E{A(" + twelve + "),B(" + twelve + ")}" + main(""));
    }

    private static void parameters() {
        String twelve = row(12, "a", ":int");
        Check.writes("fn f(" + twelve + "){print a0*100+a11;}" + main("f(" + row(12, "1", "") + ");"), "1111\n");
        Check.fault(2, "fn f(" + twelve + ",@b:int){}" + main(""));
        Check.fault(2, "fn f(" + twelve + ",@a0:int){}" + main(""));
        Check.fault(2, "fn f(" + twelve + ",@b){}" + main(""));
        Check.fault(1, "fn f(" + twelve + ",@){}" + main(""));
    }

    private static void armNames() {
        String e = "enum E{A(" + Check.times(11, "int,") + "int)}";
        Check.fine(e + "fn f(e:E){match e{A(" + row(12, "x", "") + ")=>{}}}" + main(""));
        Check.fine(e + "fn f(e:E){match &e{A(" + row(12, "x", "") + ")=>{}}}" + main(""));
        Check.fault(2, e + "fn f(e:E){match e{A(" + row(12, "x", "") + ",@y)=>{}}}" + main(""));
        Check.fault(2, e + "fn f(e:E){match e{A(" + row(12, "x", "") + ",@x0)=>{}}}" + main(""));
        Check.fault(1, e + "fn f(e:E){match e{A(" + row(12, "x", "") + ",@)=>{}}}" + main(""));
        Check.fault(4, e + "fn f(e:E){match e{@A(" + row(11, "x", "") + ")=>{}}}" + main(""));
    }

    private static void functionLives() {
        String eight = row(8, "'a", "");
        Check.writes("fn f<" + eight + ">(x:&'a0 int,y:&'a7 int)->&'a7 int{return y;}"
            + main("let p=1;let q=2;let r=f(&p,&q);print *r;"), "2\n");
        Check.fault(2, "fn f<" + eight + ",@'b>(){}" + main(""));
        Check.fault(2, "fn f<" + eight + ",@'a0>(){}" + main(""));
        Check.fault(1, "fn f<" + eight + ",@>(){}" + main(""));
        Check.fine("fn f<" + eight + ">(){}fn g<" + eight + ">(){}" + main(""));
    }

    /** Parameters, lets and names of arms are counted together, those whose block has ended too. */
    private static void variables() {
        String e = "enum E{A(int,int,int),B}";
        for (int parameters = 0; parameters <= 12; parameters += 4) {
            for (int arms = 0; arms <= 4; arms++) {
                int lets = 40 - parameters - 3 * arms;
                String head = e + "fn f(" + row(parameters, "p", ":int") + "){";
                String body = Check.times(arms, "match E::B{A(x,y,z)=>{}B=>{}}") + Check.times(lets, "{let v=1;}");
                Check.fine(head + body + "}" + main(""));
                Check.fault(2, head + body + "let @w;}" + main(""));
                Check.fault(2, head + body + "let mut @w=1;}" + main(""));
                Check.fault(2, head + body + "match E::B{A(@x,y,z)=>{}B=>{}}}" + main(""));
                Check.fault(1, head + body + "let @;}" + main(""));
                Check.fault(1, head + body + "let mut @5;}" + main(""));
            }
        }
        String lets = items(38, "let v", ";");
        Check.fault(2, e + main(lets + "match E::B{A(x,y,@z)=>{}B=>{}}"));
        Check.fine(e + main(lets.substring(0, lets.lastIndexOf("let")) + "match E::B{A(x,y,z)=>{}B=>{}}"));
        StringBuilder sum = new StringBuilder("0");
        for (int i = 0; i < 40; i++) {
            sum.append("+v").append(i);
        }
        Check.writes(main(items(40, "let v", "=3;") + "print " + sum + ";"), "120\n");
    }

    /** Arguments, fields of a new and exps of a variant have no limit; what is at fault is told with the types. */
    private static void noLimit() {
        for (int total = 12; total <= 60; total += 12) {
            String exps = row(total + 1, "1", "");
            Check.fault(4, "fn f(){}" + main("@f(" + exps + ");"));
            Check.fault(4, "enum E{A(int)}" + main("@E::A(" + exps + ");"));
            Check.fault(3, "struct S{a0:int}" + main("new S{a0:1,@a1:2," + row(total, "b", ":1") + "};"));
        }
        Check.fault(4, "fn f(){}" + main("@f(" + Check.times(1400, "1,") + "1);"));
        Check.fault(3, main("@f(" + Check.times(1400, "1,") + "1);"));
    }

    // ==== NESTING 16

    private static void blocks() {
        // Behind the @ is the { that is too deep, if 15 of them are open in main's.
        String[] opens = {"@{", "if true@{", "while true@{", "if true@{}else{", "if true@{}else if true{}else{"};
        for (String marked : opens) {
            String open = marked.replace("@", "");
            for (int depth = 1; depth <= 15; depth++) {
                Check.fine(main(Check.times(depth, open) + "let x=1;" + Check.times(depth, "}")));
            }
            String fifteen = Check.times(15, open);
            Check.fault(2, main(fifteen + marked + Check.times(16, "}")));
            Check.fault(2, main(fifteen + marked));
            // What is closed is deep no longer.
            Check.fine(main(fifteen + Check.times(15, "}") + fifteen + Check.times(15, "}")));
        }
        String e = "enum E{A}";
        String seven = Check.times(7, "match E::A{A=>{");
        Check.writes(e + main(seven + "print 1;" + Check.times(7, "}}")), "1\n");
        Check.writes(e + main(seven + "{print 1;}" + Check.times(7, "}}")), "1\n");
        Check.fault(2, e + main(seven + "{@{}}" + Check.times(7, "}}")));
        Check.fault(2, e + main(seven + "match E::A{A=>@{}}" + Check.times(7, "}}")));
        Check.fault(2, e + main(seven + "{match E::A@{A=>{}}}" + Check.times(7, "}}")));
        Check.fault(4, e + main(seven + "@match E::A{}" + Check.times(7, "}}")));
        // An if behind else is no deeper, however many there are.
        Check.writes(main(Check.times(14, "{") + "if false{}" + Check.times(100, "else if false{}") + "else{print 1;}"
            + Check.times(14, "}")), "1\n");
        Check.fault(2, main(Check.times(15, "{") + "if false@{}else{}"));
    }

    private static void exps() {
        String all = "struct P{a:int}enum E{B(int)}fn f(x:int)->int{return x;}";
        Check.writes(all + main("print " + Check.times(15, "(") + "1" + Check.times(15, ")") + ";"), "1\n");
        Check.writes(all + main("print " + Check.times(15, "f(") + "1" + Check.times(15, ")") + ";"), "1\n");
        Check.writes(all + main("print " + Check.times(15, "- ") + "1;"), "-1\n");
        Check.writes(all + main("print " + Check.times(7, "1+(") + "1+1" + Check.times(7, ")") + ";"), "9\n");
        String[] signs = {"!", "-", "*", "&", "&mut ", "box "};
        for (String sign : signs) {
            Check.fault(2, main(Check.times(15, sign + " ") + "@" + sign + "x;"));
            Check.fault(2, main("let y=" + Check.times(15, sign + " ") + "@" + sign));
        }
        Check.writes(main("print " + Check.times(14, "!") + "true;print " + Check.times(15, "!") + "true;"), "true\nfalse\n");
        Check.fault(4, main("let b=" + Check.times(15, "box ") + "1;print @*****b;"));
        String[] brackets = {"@(", "f@(", "token@(", "E::B@(", "new P@{"};
        for (String marked : brackets) {
            Check.fault(2, main(Check.times(15, "(") + marked));
            Check.fault(1, main(Check.times(14, "(") + marked.replace("@", "") + "@"));
        }
        Check.fault(2, main("f(1,2,f(" + Check.times(13, "(") + "@(1"));
        // Brackets of parameters, variants and arms are none of exps.
        Check.fine("enum G{A(int)}fn g(x:" + Check.times(16, "box ") + "int){}" + main(Check.times(5, "match G::A(1){A(x)=>{")
            + Check.times(5, "}}")));
    }

    private static void rightSides() {
        String open = Check.times(13, "(");
        String close = Check.times(13, ")");
        // Beside main's block, 13 brackets: two levels are left.
        Check.writes(main("print " + open + "1+2*3" + close + ";"), "7\n");
        Check.writes(main("print " + open + "2*3+1" + close + ";"), "7\n");
        Check.writes(main("print " + open + "1+2+3+4*5-6" + close + ";"), "20\n");
        Check.writes(main("print " + open + "1+-2" + close + ";"), "-1\n");
        Check.writes(main("print " + open + "1+(2)" + close + ";"), "3\n");
        Check.writes(main("print " + open + "-1+-1" + close + ";"), "-2\n");
        Check.writes(main("print " + open + "1<2+3" + close + ";"), "true\n");
        Check.fault(2, main("print " + open + "1<2+3@*4" + close + ";"));
        Check.fault(2, main("print " + open + "1+2*@-3" + close + ";"));
        Check.fault(2, main("print " + open + "1+2*@(3)" + close + ";"));
        Check.fault(2, main("print " + open + "1+-@-3" + close + ";"));
        Check.fault(2, main("print " + open + "1+(2@+3)" + close + ";"));
        Check.fault(2, main("print " + open + "(1+2@*3)" + close + ";"));
        Check.writes(main("print " + open + "true||true&&false" + close + ";"), "true\n");
        Check.fault(2, main("print " + open + "true||true&&1@<2" + close + ";"));
        Check.fault(2, main("print " + open + "true||true&&1@==2" + close + ";"));
        // The sign is told, though what stands to its right is no exp.
        Check.fault(2, main("print " + open + "1+2*3+(1@+;"));
        String[] signs = {"||", "&&", "==", "!=", "<", "<=", ">", ">=", "+", "-", "*", "/", "%"};
        for (String sign : signs) {
            Check.fault(2, main(Check.times(15, "(") + "x@" + sign));
            Check.fault(1, main(Check.times(14, "(") + "x" + sign + "@"));
        }
        // A left side goes no deeper.
        Check.writes(main("print " + Check.times(14, "(") + "1" + Check.times(700, "+1") + Check.times(14, ")") + ";"),
            "701\n");
    }

    private static void types() {
        String[] steps = {"box ", "& ", "&mut ", "&'a ", "&'a mut "};
        for (String step : steps) {
            String sixteen = Check.times(16, step);
            boolean isBox = step.equals("box ");
            String[][] around = {{"struct S{a:", "}" + main("")}, {"enum E{A(", ")}" + main("")}, {"fn f<'a>(x:", "){}" + main("")},
                {"fn f<'a>()->", "{return f();}" + main("")}};
            for (String[] pair : around) {
                Check.fault(2, pair[0] + sixteen + "@" + step + "int" + pair[1]);
                Check.fault(2, pair[0] + sixteen + "@box");
                Check.fault(2, pair[0] + sixteen + "@&");
                Check.fault(1, pair[0] + sixteen + "@" + pair[1]);
                if (isBox) {
                    Check.fine(pair[0] + sixteen + "int" + pair[1]);
                }
            }
            for (int depth = 1; depth <= 16; depth++) {
                String head = Check.times(depth - 1, "{") + "let x:" + Check.times(16 - depth, step);
                Check.fault(2, main(head + "@" + step + "int;"));
                if (isBox) {
                    Check.fine(main(head + "int;" + Check.times(depth - 1, "}")));
                }
            }
        }
    }

    private static int random(int below) {
        seed = seed * 6364136223846793005L + 1442695040888963407L;
        return (int) ((seed >>> 33) % below);
    }

    private static final String[] STATEMENTS = {"@{", "if x@{", "while x@{", "if x@{}else{", "match x@{A=>@{",
        "match &x@{A(b)=>@{", "if x.a@{", "while true@{"};
    // Each ends with what holds all behind it; behind a sign alone a looser one would come out of it again.
    private static final String[] EXPS = {"@(", "f@(", "token@(", "E::A@(", "E::A@(x,", "new P@{a:", "new P@{a:1,b:", "@-@(",
        "@!@(", "@*@(", "@box @(", "x@+@(", "x.a@*@(", "x@==@(", "x@&&@(", "x@||@(", "f@(x,", "x@||x@+x@*@(", "x@<@-@!@("};

    /** All that is nested, mixed: the seventeenth is told, wherever it is; with sixteen there is no such fault. */
    private static void mixedNesting() {
        for (int i = 0; i < 3000; i++) {
            StringBuilder text = new StringBuilder("fn main(){");
            int depth = 1;
            int statements = random(16);
            for (int k = 0; depth < 17; k++) {
                String[] pieces = k < statements ? STATEMENTS : EXPS;
                String piece = pieces[random(pieces.length)];
                for (int c = 0; c < piece.length(); c++) {
                    boolean isDeeper = piece.charAt(c) == '@';
                    depth += isDeeper ? 1 : 0;
                    if (!isDeeper || depth == 17) {
                        text.append(piece.charAt(c));
                    }
                }
            }
            Check.fault(2, text.toString());
            String fitting = text.substring(0, text.indexOf("@"));
            OwnedPlaces x = Check.fed(500, fitting);
            Check.due("fault of " + fitting, x.run(fitting.length(), 5), 1);
            Check.due("place in " + fitting, x.place(), fitting.length());
        }
    }

    // ==== members and borrows

    private static void members() {
        String sixteen = Check.times(16, ".a");
        String[] bases = {"@x", "(@x)", "*@x", "-@x"};
        for (String marked : bases) {
            String base = marked.replace("@", "");
            Check.fault(3, main(marked + sixteen + ";"));
            Check.fault(2, main(base + sixteen + "@.a;"));
            Check.fault(2, main("print " + base + sixteen + "@."));
        }
        Check.fault(4, main("1.@a" + Check.times(15, ".a") + ";"));
        Check.fault(2, main("1" + sixteen + "@.a;"));
        Check.fault(2, main("f()" + sixteen + "@.a;"));
        Check.fault(2, main("x" + sixteen + "@.a=1;"));
        Check.fault(2, main("match &x" + sixteen + "@.a{}"));
        // Each exp has its own.
        Check.fault(3, main("@x" + sixteen + "+x" + sixteen + ";"));
        Check.fault(1, main("x" + Check.times(15, ".a") + ".@1;"));
    }

    private static void borrows() {
        String e = "enum E{A,B(int)}";
        for (int matches = 0; matches <= 54; matches += 18) {
            // The names of arms are variables too, so this one has none.
            String body = "let mut x=F::A;" + Check.times(matches / 2, "match &x{A=>{}}match &mut x{A=>{}}");
            int signs = 54 - matches;
            String more = Check.times(signs / 2, "&x;&mut x;");
            String f = "enum F{A}";
            Check.fine(f + main(body + more));
            Check.fault(2, f + main(body + more + "@&x;"));
            Check.fault(2, f + main(body + more + "@&mut x;"));
            Check.fault(2, f + main(body + more + "match @&x{A=>{}}"));
            Check.fault(2, f + main(body + more + "match @&mut x{A=>{}}"));
            Check.fault(2, f + main(body + more + "@&"));
            // The next function begins anew, and the & of types are none.
            Check.fine(f + "fn g(y:&F)->&F{" + body + more + "let z:&F;return y;}" + main(body + more));
        }
        Check.fault(2, main("let x=1;" + Check.times(53, "&x;") + "& @&x;"));
        Check.fine(e + main("let x=E::A;" + Check.times(53, "&x;") + "match &x{A=>{}B(y)=>{}}"));
        // The last loan is known as well as the first.
        Check.fault(6, main("let mut x=1;" + Check.times(53, "&x;") + "let r=&x;@x=2;print *r;"));
        Check.fault(6, main("let mut x=1;let r=&x;" + Check.times(53, "&x;") + "@x=2;print *r;"));
        Check.fine(main("let mut x=1;let r=&x;" + Check.times(52, "&x;") + "let s=&x;print *s+*r;x=2;"));
    }

    private static void oneTokenTwoFaults() {
        // At one token SYNTAX comes ahead of LIMIT: no place stands ahead of the match's { that is too deep.
        Check.fault(1, main(Check.times(15, "{") + "match &1@{"));
        Check.fault(2, main(Check.times(15, "{") + "match &x@{"));
        Check.fault(2, main(Check.times(15, "{") + "match 1@{"));
        // LIMIT comes first, if SYNTAX stands behind it, and the other way round.
        Check.fault(2, main(Check.times(15, "{") + "@{#"));
        Check.fault(1, main(Check.times(15, "{") + "@#{"));
        Check.fault(2, "struct S{" + row(12, "a", ":int") + ",@b#");
        Check.fault(1, "struct S{" + row(12, "a", ":int") + "@#,b");
    }
}
