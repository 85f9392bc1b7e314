/** Promise 4 with the faults 1 SYNTAX and 2 LIMIT: tokens, grammar, limits. */
public final class SyntaxTest {
    public static void main(String[] args) {
        bytes();
        names();
        lives();
        numbers();
        signs();
        items();
        statements();
        exps();
        places();
        itemLimits();
        variableLimits();
        nesting();
        memberAndBorrowLimits();
        firstFromTheLeft();
        Check.end();
    }

    private static String main(String body) {
        return "fn main(){" + body + "}";
    }

    private static void bad(String body) {
        Check.fault(1, main(body));
    }

    private static void over(String body) {
        Check.fault(2, main(body));
    }

    private static void bytes() {
        Check.fine("\t\n\r fn\tmain\n(\r) { } // all 'blanks' # $ @ \" \\ | ~ ^".replace("@", "`"));
        Check.fine("//\n//a comment\r\tfn\nfn main(){}//");
        Check.fine("fn main(){}//no end");
        for (int c = 0; c < 256; c++) {
            String text = "fn main(){} //" + (char) c;
            boolean allowed = c == 9 || c == 10 || c == 13 || c >= 32 && c <= 126;
            if (allowed) {
                Check.fine(text);
            } else {
                Check.fault(1, "fn main(){} //@" + (char) c + "\n 5");
                Check.fault(1, "fn @" + (char) c + " main(){}");
            }
        }
        String noTokens = "#$\"?[\\]^`~|";
        for (int i = 0; i < noTokens.length(); i++) {
            Check.fault(1, "fn main(){} @" + noTokens.charAt(i));
        }
        bad("let x=true @| |true;");
        bad("let x=1 @^ 2;");
        Check.fault(1, "fn main(){}@/ /");
        Check.fine("fn main(){}// x\r y");
    }

    private static void names() {
        String twenty = "a2345678901234567_9Z";
        Check.fine(main("let " + twenty + "=1;"));
        bad("let @" + twenty + "x=1;");
        bad("let @" + twenty + "1=1;");
        Check.fine(main("let _=1;let __1=2;let Struct=3;let structs=4;let i=5;let mut1=6;"));
        String[] words = ("struct enum fn let if else while match return print read true false box new token int"
            + " bool").split(" ");
        for (String word : words) {
            bad("let @" + word + "=1;");
            Check.fault(1, "fn @" + word + "(){}");
            Check.fine(main("let " + word + "s=1;"));
        }
        bad("let mut @mut=1;");
        bad("let @1a=1;");
    }

    private static void lives() {
        Check.fine("fn f<'a,'_b1>(x:&'a int){}fn main(){}");
        Check.fine("fn f<'a>(x:&'a mut int){}fn main(){}");
        Check.fine("fn f<'main,'structs>(x:&'main mut int){}fn main(){}");
        Check.fault(1, "fn f<@' a>(x:&int){}fn main(){}");
        Check.fault(1, "fn f<@'1>(x:&int){}fn main(){}");
        Check.fault(1, "fn f<@'>(x:&int){}fn main(){}");
        Check.fault(1, "fn f<@'int>(x:&int){}fn main(){}");
        Check.fault(1, "fn f<@'");
        Check.fine("fn f<'a2345678901234567890>(){}fn main(){}".replace("7890", "789"));
        Check.fault(1, "fn f<@'a23456789012345678901>(){}fn main(){}");
        Check.fault(1, "fn f<@>(){}fn main(){}");
        Check.fault(1, "fn f<@a>(){}fn main(){}");
        Check.fault(1, "fn f<'a@(){}fn main(){}");
        Check.fault(1, "fn f<'a,@>(){}fn main(){}");
        Check.fault(1, "fn f(x:&mut @'a int){}fn main(){}");
        Check.fault(1, "fn f(x:box @'a int){}fn main(){}");
    }

    private static void numbers() {
        Check.writes(main("print 9223372036854775807;print 0000000000000000000000000000012;print 0;"),
            "9223372036854775807\n12\n0\n");
        bad("print @9223372036854775808;");
        bad("print -@9223372036854775808;");
        bad("print @99999999999999999999999999;");
        bad("print @0009223372036854775808;");
        bad("print @18446744073709551617;");
        bad("print @1a;");
        bad("print @1_;");
        bad("print @12x3;");
        bad("print 1@.5;".replace("@.5", ".@5"));
        bad("print 1 @2;");
    }

    private static void signs() {
        Check.writes(main("let a=1;let b=2;print a<-b;print a<=b;print a==-b;print a!=-b;print !(a>=b)&&!(a>b);"),
            "false\ntrue\nfalse\ntrue\ntrue\n");
        bad("let a=1;let b=&@&a;".replace("&@&", "@&&"));
        bad("let a=1;let b=a@->1;");
        bad("let a@=>1;");
        bad("let a:@:int=1;".replace(":@:", "@::"));
        bad("let a=1;a@= =1;".replace("@= =", "= @="));
        bad("let a=1;a@==;".replace("@==", "==@"));
        Check.writes(main("let a=1;let b=2;print a-b//\n;print b*a/b%2;"), "-1\n1\n");
    }

    private static void items() {
        Check.fault(1, "@x");
        Check.fault(1, "fn main(){}@;");
        Check.fault(1, "fn main(){@");
        Check.fault(1, "fn main()@");
        Check.fault(1, "fn main@");
        Check.fault(1, "fn @");
        Check.fault(1, "struct S@");
        Check.fault(1, "struct S{@}fn main(){}");
        Check.fault(1, "struct S{a@}fn main(){}");
        Check.fault(1, "struct S{a:@}fn main(){}");
        Check.fault(1, "struct S{a:int,@}fn main(){}");
        Check.fault(1, "struct S{a:int@;}fn main(){}");
        Check.fault(1, "struct S@(a:int)fn main(){}");
        Check.fault(1, "enum E{@}fn main(){}");
        Check.fault(1, "enum E{A,@}fn main(){}");
        Check.fault(1, "enum E{A(@)}fn main(){}");
        Check.fault(1, "enum E{A(int,@)}fn main(){}");
        Check.fault(1, "enum E{A(int@}fn main(){}");
        Check.fault(1, "enum E{A@:int}fn main(){}");
        Check.fault(1, "fn main(@,){}");
        Check.fault(1, "fn f(a:int,@){}fn main(){}");
        Check.fault(1, "fn f(a@){}fn main(){}");
        Check.fault(1, "fn f(@int){}fn main(){}");
        Check.fault(1, "fn f()->@{}fn main(){}");
        Check.fault(1, "fn f()@int{}fn main(){}");
        Check.fault(1, "fn f(a:& mut@){}fn main(){}");
        Check.fault(1, "fn f(a:box@){}fn main(){}");
        Check.fault(1, "fn f(a:&@&int){}fn main(){}".replace("&@&", "@&&"));
        Check.fine("struct S{a:int,b:bool}enum E{A,B(int,box S),C(S)}fn f<'a>(x:&'a mut S,e:E)->&'a mut S{return x;}"
            + "fn main(){}");
    }

    private static void statements() {
        bad("@;");
        bad("let @;");
        bad("let x@");
        bad("let x=@;");
        bad("let x:@=1;");
        bad("let x:int@ 1;".replace("@ ", " @"));
        bad("let mut mut@;".replace("mut@", "@mut"));
        bad("let x=1@");
        bad("if @{}");
        bad("if true @;");
        bad("if true{}else @;");
        bad("if true{}else if@{}".replace("if@{", "if @{"));
        bad("@else{}");
        bad("while @{}");
        bad("while true @print 1;");
        bad("while true{}@else{}");
        bad("return 1@");
        bad("return @,;");
        bad("print @;");
        bad("print 1@ 2;".replace("@ ", " @"));
        bad("let x=1;match x{A@}");
        bad("let x=1;match x{A=>@;}");
        bad("let x=1;match x{A(@)=>{}}");
        bad("let x=1;match x{A(b,@)=>{}}");
        bad("let x=1;match x{A(@1)=>{}}");
        bad("let x=1;match x{A(b@=>{}}");
        bad("let x=1;match x{@1=>{}}");
        bad("let x=1;match x{A=>{}@,B=>{}}");
        bad("match @{}");
        bad("@struct S{a:int}");
        bad("@fn f(){}");
        bad("@mut x=1;");
        bad("@: 1;");
        Check.fine(main("{}{{}}if true{}else if false{}else{}while false{}return;"));
    }

    private static void exps() {
        bad("print 1+@;");
        bad("print @+1;");
        bad("print (1@;");
        bad("print (@);");
        bad("print 1@);");
        bad("print f(1,@);");
        bad("print f(@,1);");
        bad("print f(1@;");
        bad("print x.@1;");
        bad("print x.@;");
        bad("print x.@read;");
        bad("print token@ 1;".replace("@ ", " @"));
        bad("print token(@);");
        bad("print token(1@,2);");
        bad("print new @;");
        bad("print new P@;");
        bad("print new P{@};");
        bad("print new P{a@};");
        bad("print new P{a:@};");
        bad("print new P{a:1,@};");
        bad("print new P{a:1@;");
        bad("print new @int{a:1};");
        bad("print E::@;");
        bad("print E::@1;");
        bad("print E::A(@);");
        bad("print E::A(1,@);");
        bad("print E::A::@B;".replace("::@B", "@::B"));
        bad("print @int;");
        bad("print 1 @& 2;");
        bad("print 1@!;");
        bad("print read@(1);");
        bad("print @mut x;");
        bad("print 'a;".replace("'a", "@'a"));
        bad("print f(1)@(2);");
        Check.writes(main("print 1+2*3-4/2%3;print (1+2)*3;print 1<2==true||false&&false;print - -3;print !!true;"),
            "5\n9\ntrue\n3\ntrue\n");
        Check.writes(main("print 10-4-3;print 100/10/5;print 7%4*2;print 2*7%4;print true||false&&false;"),
            "3\n2\n6\n2\ntrue\n");
        Check.writes(main("print true&&1<2==true;print 1+1<3&&2*3==6;print -2*-3;print -(2+3);"),
            "true\ntrue\n6\n-5\n");
    }

    private static void places() {
        bad("1@=2;");
        bad("x+y@=2;");
        bad("-x@=2;");
        bad("f(x)@=2;");
        bad("f(x).a@=2;");
        bad("1.a@=2;");
        bad("&x@=2;");
        bad("(x+1)@=2;");
        bad("*1@=2;");
        bad("*f()@=2;");
        bad("box x@=2;");
        bad("new P{a:1}@=2;");
        bad("E::A@=2;");
        bad("read@=2;");
        bad("token(1)@=2;");
        bad("x=y@=2;");
        bad("match &1@{}");
        bad("match &mut x+1@{}");
        bad("match & &x@{}");
        bad("match & *f()@{}");
        bad("match &(x+1)@{}");
        bad("match &E::A@{}");
        bad("match @&&x{}");
        bad("match &@{}");
        bad("match &mut@{}");
        Check.fault(3, main("((*(@x)).a).b=2;"));
        Check.fault(3, main("match & *(@x){}"));
        Check.fault(4, "enum E{A}" + main("let x=E::A;match @(&x){A=>{}}"));
        Check.fault(3, main("match &mut (*@x).y{}"));
    }

    private static String row(int from, int to, String ahead, String behind) {
        StringBuilder all = new StringBuilder();
        for (int i = from; i < to; i++) {
            all.append(ahead).append(i).append(behind);
        }
        return all.toString();
    }

    private static void itemLimits() {
        String structs = row(0, 15, "struct s", "{a:int}");
        String enums = row(15, 30, "enum e", "{A}");
        Check.fine(structs + enums + main(""));
        Check.fault(2, structs + enums + main("") + "@struct s{a:int}");
        Check.fault(2, structs + enums + main("") + "@enum");
        Check.fault(1, structs + enums + main("") + "@;");
        String functions = row(0, 39, "fn f", "(){}");
        Check.fine(functions + main(""));
        Check.fault(2, functions + main("") + "@fn");
        Check.fine(structs + enums + functions + main(""));
        String fields = row(1, 12, "a", ":int,");
        Check.fine("struct S{" + fields + "z:int}" + main(""));
        Check.fault(2, "struct S{" + fields + "z:int,@y:int}" + main(""));
        Check.fault(1, "struct S{" + fields + "z:int,@}" + main(""));
        String variants = row(1, 12, "A", ",");
        Check.fine("enum E{" + variants + "Z}" + main(""));
        Check.fault(2, "enum E{" + variants + "Z,@Y}" + main(""));
        Check.fault(1, "enum E{" + variants + "Z,@5}" + main(""));
        String parts = Check.times(11, "int,");
        Check.fine("enum E{A(" + parts + "box E)}" + main(""));
        Check.fault(2, "enum E{A(" + parts + "int,@box E)}" + main(""));
        Check.fault(2, "enum E{A(" + parts + "int,@&int)}" + main(""));
        Check.fault(2, "enum E{A(" + parts + "int,@E)}" + main(""));
        Check.fault(1, "enum E{A(" + parts + "int,@)}" + main(""));
        String parameters = row(1, 12, "a", ":int,");
        Check.fine("fn f(" + parameters + "z:int){}" + main(""));
        Check.fault(2, "fn f(" + parameters + "z:int,@y:int){}" + main(""));
        Check.fault(1, "fn f(" + parameters + "z:int,@){}" + main(""));
        String lives = row(1, 8, "'a", ",");
        Check.fine("fn f<" + lives + "'z>(){}" + main(""));
        Check.fault(2, "fn f<" + lives + "'z,@'y>(){}" + main(""));
        Check.fault(1, "fn f<" + lives + "'z,@y>(){}" + main(""));
    }

    private static void variableLimits() {
        String lets = row(0, 39, "let a", ";");
        Check.fine(main(lets + "let z=1;"));
        over(lets + "let z=1;let mut @y=2;");
        bad(lets + "let z=1;let mut @=2;");
        Check.fine("fn f(){" + lets + "}" + main(lets));
        String few = row(0, 36, "let a", ";");
        Check.fine("fn f(x:int,y:int,z:int){" + few + "let a;}" + main(""));
        Check.fault(2, "fn f(x:int,y:int,z:int){" + few + "let a;{let @b;}}" + main(""));
        Check.fine("enum E{A(int,int)}" + main(row(0, 37, "let a", ";") + "let e=E::A(1,2);match e{A(x,y)=>{}}"));
        Check.fault(2, "enum E{A(int,int)}" + main(row(0, 38, "let a", ";") + "let e=E::A(1,2);match e{A(x,@y)=>{}}"));
        String names = row(1, 12, "a", ",");
        String parts = Check.times(11, "int,");
        Check.fine("enum E{A(" + parts + "int)}fn f(e:E){match e{A(" + names + "z)=>{}}}" + main(""));
        Check.fault(2, "enum E{A(" + parts + "int)}fn f(e:E){match e{A(" + names + "z,@y)=>{}}}" + main(""));
        String many = Check.times(60, "1,");
        Check.fault(4, "fn f(){}" + main("@f(" + many + "1);"));
        Check.fault(4, "enum E{A}" + main("@E::A(" + many + "1);"));
        Check.fault(3, "struct S{a:int}" + main("new S{a:1," + Check.times(20, "@a:2,").replaceAll("(?<!^)@", "")
            + "a:3};"));
    }

    private static void nesting() {
        Check.fine(main(Check.times(15, "{") + Check.times(15, "}")));
        over(Check.times(15, "{") + "@{" + Check.times(16, "}"));
        Check.fine(main(Check.times(15, "if true{") + Check.times(15, "}")));
        over(Check.times(15, "if true{") + "while true@{");
        Check.fine(main("if true{}" + Check.times(30, "else if true{}") + "else" + Check.times(15, "{")
            + Check.times(15, "}")));
        over("if true{}" + Check.times(30, "else if true{}") + "else" + Check.times(15, "{") + "@{");
        Check.writes(main("print " + Check.times(15, "(") + "1" + Check.times(15, ")") + ";"), "1\n");
        over("print " + Check.times(15, "(") + "@(1");
        Check.writes(main("print " + Check.times(15, "- ") + "1;"), "-1\n");
        over("print " + Check.times(15, "- ") + "@- 1;");
        over("print " + Check.times(15, "!") + "@!true;");
        over("print " + Check.times(15, "box ") + "@box 1;");
        over("print " + Check.times(15, "*") + "@*x;");
        over("print " + Check.times(15, "& ") + "@&x;");
        Check.fine(main("let x=" + Check.times(15, "box ") + "1;"));
        Check.fine("fn f(x:int)->int{return x;}" + main("print " + Check.times(15, "f(") + "1" + Check.times(15, ")")
            + ";"));
        over("print " + Check.times(15, "f(") + "f@(1" + Check.times(16, ")"));
        over("print " + Check.times(15, "f(") + "f@()" + Check.times(15, ")"));
        over("print " + Check.times(15, "(") + "token@(1" + Check.times(16, ")"));
        over("print " + Check.times(15, "(") + "E::A@(1" + Check.times(16, ")"));
        over("print " + Check.times(15, "(") + "new P@{a:1}" + Check.times(15, ")"));
        Check.fine("struct P{a:int}" + main("new P{a:" + Check.times(14, "(") + "1" + Check.times(14, ")") + "};"));
        over("new P{a:" + Check.times(14, "(") + "@(1");
        over("new P{a:" + Check.times(14, "(") + "1@+1");
        over("token(" + Check.times(14, "(") + "@(1");
        over("E::A(" + Check.times(14, "(") + "@(1");
        over("f(1,-" + Check.times(13, "(") + "@(1");
        over("while true{print " + Check.times(14, "(") + "@(1");
        Check.fine("struct P{a:int}" + main(Check.times(14, "(") + "new P{a:1}" + Check.times(14, ")") + ";"));
        Check.writes(main("print " + Check.times(14, "(") + "1+2+3*4" + Check.times(13, ")") + ")*2;").replace("3*4", "3"),
            "12\n");
        Check.writes(main("print " + Check.times(14, "(") + "1+2" + Check.times(14, ")") + ";"), "3\n");
        over("print " + Check.times(14, "(") + "1+2@*3" + Check.times(14, ")") + ";");
        over("print " + Check.times(15, "(") + "1@+2" + Check.times(15, ")") + ";");
        Check.writes(main("print " + Check.times(13, "(") + "1+2*3+4*5" + Check.times(13, ")") + ";"), "27\n");
        Check.writes(main("print " + Check.times(400, "1+") + "1;"), "401\n");
        over("print true||true&&1<2+3*" + Check.times(10, "(") + "@(1");
        nestedTypes();
        nestedMatches();
    }

    private static void nestedTypes() {
        Check.fine("fn f(x:" + Check.times(16, "box ") + "int){}" + main(""));
        Check.fault(2, "fn f(x:" + Check.times(16, "box ") + "@box int){}" + main(""));
        Check.fine("struct S{a:" + Check.times(16, "box ") + "int}" + main(""));
        Check.fault(2, "struct S{a:" + Check.times(16, "box ") + "@box int}" + main(""));
        Check.fine("enum E{A(" + Check.times(16, "box ") + "int)}" + main(""));
        Check.fault(2, "enum E{A(" + Check.times(16, "box ") + "@& int)}" + main(""));
        Check.fine("fn f()->&" + Check.times(15, "box ") + "int{return f();}" + main(""));
        Check.fault(2, "fn f()->&" + Check.times(15, "box ") + "@box int{return f();}" + main(""));
        Check.fine(main("let x:" + Check.times(15, "box ") + "int;"));
        over("let x:" + Check.times(15, "box ") + "@box int;");
        over("{let x:" + Check.times(14, "box ") + "@& mut int;}");
    }

    private static void nestedMatches() {
        StringBuilder open = new StringBuilder();
        for (int i = 0; i < 7; i++) {
            open.append("match E::A{A=>{");
        }
        Check.fine("enum E{A}" + main(open + Check.times(7, "}}")));
        Check.fine("enum E{A}" + main(open + "{}" + Check.times(7, "}}")));
        Check.fault(2, "enum E{A}" + main(open + "match E::A{A=>@{}}" + Check.times(7, "}}")));
        Check.fault(2, "enum E{A}" + main(open + "{match E::A@{A=>{}}}" + Check.times(7, "}}")));
        // At one token SYNTAX comes ahead of LIMIT.
        Check.fault(1, "enum E{A}" + main(open + "{match &E::A@{A=>{}}}" + Check.times(7, "}}")));
    }

    private static void memberAndBorrowLimits() {
        Check.fault(3, main("print @x" + Check.times(16, ".a") + ";"));
        over("print x" + Check.times(16, ".a") + "@.a;");
        over("print x" + Check.times(16, ".a") + "@.1;");
        Check.fault(3, main("print ((@x" + Check.times(16, ".a") + ")" + Check.times(16, ".a") + ").a;"));
        over("print 1" + Check.times(16, ".a") + "@.a;");
        over("f(x" + Check.times(16, ".a") + "@.a);");
        String borrows = Check.times(54, "&x;");
        Check.fine(main("let x=1;" + borrows));
        Check.fault(2, main("let x=1;" + borrows + "@&x;"));
        Check.fault(2, main("let x=1;" + borrows + "@&mut x;"));
        Check.fault(2, main("let x=1;" + borrows + "match @&x{}"));
        Check.fine("fn f(){let x=1;" + borrows + "}" + main("let x=1;" + borrows));
        Check.fine("enum E{A}" + main("let x=E::A;" + Check.times(53, "&x;") + "match &x{A=>{}}"));
        Check.fault(2, "enum E{A}" + main("let x=E::A;" + Check.times(53, "&x;") + "match &x{A=>{}}@&x;"));
        // The & of types are no borrows.
        Check.fine("fn f(a:&int,b:&int){}" + main("let x=1;" + borrows + "let y:&int;"));
    }

    private static void firstFromTheLeft() {
        bad("let x=@; #");
        bad("@# let");
        over(Check.times(15, "{") + "@{ # ");
        bad(Check.times(15, "{") + "@# {");
        Check.fault(1, "struct S{a:S} fn main(){ x @}");
        Check.fault(1, "fn main(){ y = 1; z @z; }");
    }
}
