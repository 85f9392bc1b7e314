/** 'Terms', sentence by sentence in the document's order: each is quoted, with what would fail if it were broken. */
public final class TermsTest {
    public static void main(String[] args) {
        texts();
        tokens();
        grammar();
        places();
        limits();
        types();
        faultsOfItems();
        faultsOfLives();
        orderOfTyping();
        exps();
        statements();
        waysAndReturns();
        mutable();
        moves();
        parts();
        faultFive();
        loans();
        alive();
        outerLoans();
        faultSix();
        meetings();
        fuelAndOrder();
        panicsAndDepth();
        boxes();
        dropped();
        writtenAndRead();
        Check.end();
    }

    private static String main(String body) {
        return "fn main(){" + body + "}";
    }

    private static void bad(int fault, String body) {
        Check.fault(fault, main(body));
    }

    private static void fine(String body) {
        Check.fine(main(body));
    }

    private static void writes(String body, String output) {
        Check.writes(main(body), output);
    }

    // ==== TEXTS

    private static void texts() {
        // "Bytes 9, 10, 13, 32 .. 126." "(other bytes are SYNTAX at them, in it, too)"
        for (int c = 0; c < 256; c++) {
            boolean isBlank = c == 9 || c == 10 || c == 13 || c == 32;
            boolean isByte = isBlank || c > 32 && c <= 126;
            String text = "fn main(){} // " + (char) c + "\n";
            if (isByte) {
                Check.fine(text);
            } else {
                Check.fault(1, text.replace("// ", "// @"));
            }
            // "BLANKS: 9, 10, 13, 32"
            String between = "fn" + (char) c + "main(){print" + (char) c + "1;}";
            if (isBlank) {
                Check.writes(between, "1\n");
            } else if (!isByte) {
                Check.fault(1, between.replaceFirst("fn", "fn@"));
            }
        }
        // "a COMMENT: // to 10 or the end"
        Check.writes("// fn main(){print 1;}\nfn main(){print 2;}// print 3;}", "2\n");
        Check.writes("fn main(){print 4// /\r/ */\n/2;}", "2\n");
        Check.fault(1, "fn main(){// }@");
        Check.fault(1, "fn main(){print 4/ @/ 2;}");
    }

    private static void tokens() {
        // "TOKENS, as long as they can be"
        writes("let a1=1;let a=2;let b=a<=a1;print b;print 1<=-1;print 3- -1;print 3--1;", "false\nfalse\n4\n4\n");
        bad(1, "let x=1;let y=@&&x;");
        bad(1, "let x=1;x= @=2;");
        bad(3, "@letx=1;");
        // "NAMES: a letter or _, then these and digits, at most 20 (a longer one is SYNTAX at its first byte)"
        writes("let _=1;let _9aZ=2;let abcdefghijklmnopqrst=3;let ABCDEFGHIJ0123456789=4;print _+_9aZ+abcdefghijklmnopqrst"
            + "+ABCDEFGHIJ0123456789;", "10\n");
        bad(1, "let @abcdefghijklmnopqrstu=1;");
        bad(1, "let @_____________________=1;");
        // "but not the WORDS"
        String words = "struct enum fn let mut if else while match return print read true false box new token int bool";
        for (String word : words.split(" ")) {
            Check.fault(1, "fn @" + word + "(){}" + main(""));
            fine("let " + word + "s=1;let _" + word + "=2;let " + word.toUpperCase() + "=3;");
        }
        // "LIVES: ' and at once a name (else SYNTAX at the ')"
        Check.fine("fn f<'a,'_,'a1>(x:&'a1 int,y:&'_ mut int){}" + main(""));
        Check.fault(1, "fn f<@' a>(){}" + main(""));
        Check.fault(1, "fn f<@'1>(){}" + main(""));
        Check.fault(1, "fn f<@'mut>(){}" + main(""));
        Check.fault(1, "fn f<@''a>(){}" + main(""));
        // "NUMBERS: digits (0s ahead as they like), below 2 ^ 63, no letter or _ behind (else SYNTAX at the first digit)"
        writes("print 9223372036854775807;print 0000000000000000000000000000000007;print 00;",
            "9223372036854775807\n7\n0\n");
        bad(1, "print @9223372036854775808;");
        bad(1, "print @00009223372036854775808;");
        bad(1, "print @99999999999999999999999999999;");
        bad(1, "print @12a;");
        bad(1, "print @0_;");
        // "SIGNS"
        writes("print 1+2-3*4/2%5==2;print 1!=2&&2<3&&3<=3&&4>3&&3>=3||!true;", "true\ntrue\n");
        String others = "\"#$?@[\\]^`|~";
        for (int i = 0; i < others.length(); i++) {
            if (others.charAt(i) != '@') {
                bad(1, "print 1@" + others.charAt(i) + ";");
            }
        }
    }

    private static void grammar() {
        // "program: item*."
        Check.fault(1, "fn main(){}@;");
        Check.fault(1, "@let x=1;");
        // "item: 'struct' .. | 'enum' .. | 'fn' .."
        Check.fault(1, "struct S{@}" + main(""));
        Check.fault(1, "struct S{a:int,@}" + main(""));
        Check.fault(1, "struct S{a @int}" + main(""));
        Check.fault(1, "enum E{@}" + main(""));
        Check.fault(1, "enum E{A(@)}" + main(""));
        Check.fault(1, "enum E{A,@}" + main(""));
        Check.fault(1, "fn f<@>(){}" + main(""));
        Check.fault(1, "fn f(a:int,@){}" + main(""));
        Check.fault(1, "fn f()->@{}" + main(""));
        Check.fault(1, "fn f()@;" + main(""));
        // "type: 'int' | 'bool' | 'token' | name | 'box' type | '&' [life] ['mut'] type"
        Check.fine("struct S{a:int,b:bool,c:token,d:T,e:box box T}enum T{A}fn f<'a>(a:&'a mut S,b:&mut S,c:&'a S,d:&S){}" + main(""));
        Check.fault(1, "fn f<'a>(a:&mut @'a int){}" + main(""));
        Check.fault(1, "fn f(a:@mut int){}" + main(""));
        Check.fault(1, "fn f(a:@*int){}" + main(""));
        // "statement: .."
        writes("let mut a:int=1;a=2;a;{print a;}if a==1{}else if a==2{print 3;}else{}while a<3{a=a+1;}return;", "2\n3\n");
        bad(1, "let x=1@}");
        bad(1, "print @;");
        bad(1, "if true @print 1;");
        bad(1, "if true{}else @print 1;");
        bad(1, "while @{}");
        bad(1, "@else{}");
        bad(1, "return 1@}");
        bad(1, "let @1=2;");
        bad(1, "let x:@=2;");
        bad(1, "x@:int=1;");
        Check.fault(1, "enum E{A}" + main("match E::A{A=>{}@,}"));
        Check.fault(1, "enum E{A}" + main("match E::A{A@{}}"));
        Check.fault(1, "enum E{A(int)}" + main("match E::A(1){A(@)=>{}}"));
        Check.fault(1, "enum E{A(int)}" + main("match E::A(1){A(x,@)=>{}}"));
        // "exp: and-or: from the loosest .. each from the left; then unary; then suffixes"
        writes("print true||true&&false;print 1+2*3-4/2;print 10-3-2;print 100/5/2;print 7%4*2;print 1+1==2;"
            + "print 2<3==true;print -2*-3;print !true==false;", "true\n5\n5\n10\n6\ntrue\ntrue\n6\ntrue\n");
        Check.writes("struct S{a:box int}" + main("let s=new S{a:box 5};print *s.a;print -*s.a;"), "5\n-5\n");
        bad(1, "f(1,@);");
        bad(1, "new S{@};");
        bad(1, "E::A(@);");
        bad(1, "token(@);");
        bad(1, "token @1;");
        bad(1, "(1@;");
        bad(1, "1 @2;");
    }

    private static void places() {
        // "In 'match' '&' .. the exp is a place, and so is what stands ahead of = in a statement"
        String[] none = {"1", "x+y", "-x", "!x", "&x", "box x", "f()", "f().a", "token(1)", "new S{a:1}", "E::A", "E::A(x)", "*f()",
            "(x+y)", "*(x+y)", "(f()).a", "read", "true"};
        for (String exp : none) {
            bad(1, exp + "@=1;");
            bad(1, "match & " + exp + "@{}");
            bad(1, "match &mut " + exp + "@{}");
        }
        // "A PLACE: a name; place '.' name; '*' place; a place in brackets."
        String[] some = {"@x", "@x.a", "*@x", "(@x)", "*(@x).a.b", "((*@x)).a", "**@x.a"};
        for (String exp : some) {
            bad(3, exp + "=1;");
            bad(3, "match &" + exp + "{}");
            bad(3, "match &mut " + exp + "{}");
        }
        // "A & behind match is always match's."
        Check.writes("enum E{A(int)}" + main("let e=E::A(4);match &e{A(x)=>{print *x;}}"), "4\n");
        bad(1, "match &x+1@{}");
        bad(1, "match @&&x{}");
        bad(1, "match & &x@{}");
    }

    private static void limits() {
        // "FAULTS 1 SYNTAX, 2 LIMIT, the first one from the left (at one token 1)."
        Check.fault(2, "fn f<'a,'b,'c,'d,'e,'f,'g,'h,@'i,>(){}" + main(""));
        Check.fault(1, "fn f<'a,'b,'c,'d,'e,'f,'g,'h,@>(){}" + main(""));
        Check.fault(1, "fn f<'a,@,'b,'c,'d,'e,'f,'g,'h,'i>(){}" + main(""));
        // "30 structs and enums together, 40 functions"
        StringBuilder shapes = new StringBuilder();
        StringBuilder functions = new StringBuilder();
        for (int i = 0; i < 30; i++) {
            shapes.append(i % 2 == 0 ? "struct s" + i + "{a:int}" : "enum s" + i + "{A}");
        }
        for (int i = 0; i < 39; i++) {
            functions.append("fn f").append(i).append("(){}");
        }
        Check.fine(shapes + main("") + functions);
        Check.fault(2, shapes + main("") + "@struct x{a:int}");
        Check.fault(2, shapes + main("") + "@enum x{A}");
        Check.fault(2, functions + main("") + "@fn x(){}");
        // "arguments, fields of a new and exps of a variant have none"
        Check.fault(3, main("@f(" + Check.times(30, "1,") + "1);"));
        Check.fault(3, main("new @S{" + Check.times(30, "a:1,") + "a:1};"));
        Check.fault(3, main("@E::A(" + Check.times(30, "1,") + "1);"));
        // "8 lives of a function; 40 variables of a function in all"
        Check.fine("fn f<'a,'b,'c,'d,'e,'f,'g,'h>(){}" + main(Check.times(40, "let x;")));
        bad(2, Check.times(40, "let x;") + "let @x;");
        // "NESTING 16"
        fine(Check.times(15, "{") + Check.times(15, "}"));
        bad(2, Check.times(15, "{") + "@{" + Check.times(16, "}"));
        bad(2, Check.times(14, "{") + "print (1@+1);" + Check.times(14, "}"));
        fine(Check.times(14, "{") + "print (1)+1+1;" + Check.times(14, "}"));
        // "16 members on one exp; 54 borrows (the signs & and & of matches) in a function"
        bad(3, "@x" + Check.times(16, ".a") + "+x" + Check.times(16, ".a") + ";");
        bad(2, "x" + Check.times(16, ".a") + "@.a;");
        bad(2, "let x=1;" + Check.times(54, "&x;") + "@&x;");
        fine("let x=1;" + Check.times(54, "&x;"));
    }

    // ==== TYPES

    private static void types() {
        // "Types of fields, parts, boxes, and what references refer to have no references in them."
        Check.fault(4, "struct S{a:@&int}" + main(""));
        Check.fault(4, "enum E{A(@&mut int)}" + main(""));
        Check.fault(4, "fn f(a:box @&int){}" + main(""));
        Check.fault(4, "fn f(a:& @&int){}" + main(""));
        Check.fault(4, "fn f()->&mut box @&int{}" + main(""));
        bad(4, "let x:box @&int;");
        // "COPIED are int, bool, & references; all others are MOVED."
        fine("let a=1;let b=a;let c=a;let d=true;let e=d;let g=d;let r=&a;let s=r;let t=r;");
        bad(5, "let a=token(1);let b=a;let c=@a;");
        bad(5, "let a=box 1;let b=a;let c=@a;");
        bad(5, "let mut x=1;let a=&mut x;let b=a;let c=@a;");
        Check.fault(5, "struct S{a:int}" + main("let a=new S{a:1};let b=a;let c=@a;"));
        Check.fault(5, "enum E{A}" + main("let a=E::A;let b=a;let c=@a;"));
        // "SIZES in cells: int, bool, token, box, reference 1; a struct the sum of its fields; an enum 1 and its largest"
        size(1, "", "1");
        size(1, "", "true");
        size(1, "", "token(1)");
        size(2, "", "box 1");
        size(3, "struct S{a:int,b:bool,c:token}", "new S{a:1,b:true,c:token(1)}");
        size(5, "struct S{a:int,t:T}struct T{a:int,b:int,c:box int}", "new S{a:1,t:new T{a:1,b:2,c:box 1}}");
        size(1, "enum E{A,B}", "E::A");
        size(4, "enum E{A,B(int,int,int),C(int)}", "E::A");
        size(4, "enum E{A,B(int,int,int),C(int)}", "E::C(1)");
        size(3, "enum E{A,B(F)}enum F{C,D(int)}", "E::A");
        // "at most 16; a struct or enum that is in itself (but in a box) is at fault"
        Check.fine("struct S{a:T,b:T}struct T{a:int,b:int,c:int,d:int,e:int,f:int,g:int,h:box S}" + main(""));
        Check.fault(4, "struct @S{a:T,b:T,c:int}struct T{a:int,b:int,c:int,d:int,e:int,f:int,g:int,h:box S}" + main(""));
        Check.fault(4, "enum @E{A(T,T)}struct T{a:int,b:int,c:int,d:int,e:int,f:int,g:int,h:box E}" + main(""));
        Check.fault(4, "struct @S{a:E}enum E{A,B(S)}" + main(""));
    }

    /** A box of it is so many cells. */
    private static void size(int cells, String items, String exp) {
        String text = items + main("box " + exp + ";");
        OwnedPlaces x = Check.runs(text, 99, 0, exp.contains("token") ? "d1\n" : "");
        Check.due("cells of " + text, x.count(2), cells);
    }

    private static void faultsOfItems() {
        // "the names of all items (structs, enums and functions together; one that was there: 3, at the later one"
        Check.fault(3, "fn f(){}struct @f{a:No}" + main("y;"));
        Check.fault(3, "enum e{A}fn @e(a:No){}fn e(){}" + main(""));
        // "variables may bear any name)"
        Check.writes("struct S{a:int}enum E{A}fn f(f:int)->int{return f;}" + main("let S=1;let E=2;let f=f(3);let main=4;print S+E+f"
            + "+main;"), "10\n");
        // "types of fields, parts, parameters and results from the left (a name of no type 3"
        Check.fault(3, "struct S{a:int,b:@No,c:No}" + main(""));
        Check.fault(3, "enum E{A,B(int,box @No)}" + main(""));
        Check.fault(3, "fn f(a:int,b:&@f)->No{}" + main(""));
        Check.fault(3, "fn f()->@main{}" + main(""));
        // "two fields, variants, lives, parameters of one name 3, at the later one"
        Check.fault(3, "struct S{a:int,b:int,@a:int,b:int}" + main(""));
        Check.fault(3, "enum E{A,B(int),@B}" + main(""));
        Check.fault(3, "fn f<'a,'b,@'b>(){}" + main(""));
        Check.fault(3, "fn f(a:int,b:int,@a:bool){}" + main(""));
        Check.fine("struct S{a:int,b:int}struct T{a:int,S:int}enum E{a,S,T(int)}fn a<'a>(a:int,b:int){}fn b<'a>(a:int){}" + main(""));
        // "then of structs and enums in order: in itself, or with one in it that is, or more than 16 cells: 4, at its name"
        Check.fault(4, "struct A{a:int}struct @B{c:C}struct C{c:C}" + main("y;"));
        // "then 'fn main()' without a result (3 at the text's end, if there is none; 4 at its name ..)"
        Check.fault(3, "fn f(){y;}  @");
        Check.fault(4, "fn f(){y;}fn @main()->int{z;}");
    }

    private static void faultsOfLives() {
        // "a life 3, if it is none of its function's"
        Check.fault(3, "fn f<'a>(x:&'a int,y:&@'b int){}" + main(""));
        Check.fault(3, "fn f<'a>(x:&'a int)->&@'x int{return x;}" + main(""));
        Check.fault(3, "fn f<'a>(){}fn g(x:&@'a int){}" + main(""));
        // "behind what is at fault in its type"
        Check.fault(3, "fn f<'a>(x:&'b @No){}" + main(""));
        Check.fault(4, "fn f<'a>(x:&'b box @&int){}" + main(""));
        // "a life in a let 4"
        Check.fault(4, "fn f<'a>(x:&'a int){let y:&@'a int=x;}" + main(""));
        Check.fine("fn f<'a>(x:&'a int){let y:&int=x;}" + main(""));
    }

    private static void orderOfTyping() {
        // "then the functions' statements from the left: in each expression its parts ahead of itself"
        bad(3, "true+@y;");
        bad(4, "(true@+1)+y;");
        bad(3, "-(!@y);");
        // "fault at its own first token, not a bracket around it; for the operands of a binary sign at the sign"
        bad(4, "((@-(true)));");
        bad(4, "(1)@*((true));");
        // "for a member at its name"
        bad(4, "let x=1;(x).@a;");
        // "where 'at an exp' or a place is said, at its first token, a bracket around it too"
        bad(4, "print @(token(1));");
        bad(4, "let x=1;&mut @(x);");
        // "what is asked of a call's, new's or variant's name and of how many exps there are ahead of its parts"
        bad(3, "@f(y);");
        Check.fault(4, "fn f(){}" + main("@f(y);"));
        bad(3, "new @S{a:y};");
        Check.fault(4, "enum E{A}" + main("@E::A(y);"));
        // "of an assignment the exp, then the place, then whether they fit, then whether it is mutable"
        bad(3, "x=@y;");
        bad(3, "@x=1;");
        bad(4, "let b=box 1;*b=@true;");
        bad(4, "let b=box 1;@*b=2;");
        // "of & the place ahead of what is asked of it (of no reference: at the &), then whether it is mutable"
        bad(3, "&mut @y;");
        bad(4, "let x=1;let r=&x;@&mut r;");
        bad(4, "let x=1;&mut @x;");
        // "of a match the exp, then arm by arm its name, how many names (4 at its name), its block, and behind all what is missing"
        String e = "enum E{A,B(int)}";
        Check.fault(3, e + main("match @y{C=>{}}"));
        Check.fault(3, e + main("match E::A{@C(x)=>{y;}}"));
        Check.fault(4, e + main("match E::A{@A(x)=>{y;}}"));
        Check.fault(3, e + main("match E::A{A=>{@y;}}"));
        Check.fault(4, e + main("@match E::A{A=>{}}"));
        // "of a let its type ahead of its exp"
        bad(3, "let x:@No=y;");
    }

    private static void exps() {
        String s = "struct S{a:int,b:box int}enum E{A,B(int,bool)}fn n(){}fn f(a:int,b:bool)->int{return a;}";
        // "+ - * / % of ints; < <= > >= of ints: bool; == != of two ints or two bools; && || of bools; ! of bool; - of int"
        bad(4, "print 1@+(1<2);");
        bad(4, "print (1+2)@&&true;");
        bad(4, "let t=token(1);let u=token(1);t@==u;");
        fine("print (1<2)==(true&&!false);print -1!=- -1;");
        // "box e: a box (of nothing, or of a reference: 4 at box)"
        Check.fault(4, s + main("@box n();"));
        bad(4, "let x=1;@box &x;");
        // "* of a place that is a box or reference: what it is of, * of another exp is at fault"
        writes("let x=box 2;let r=&x;print **r+*x;", "4\n");
        bad(4, "print @*(box 1);");
        bad(4, "let x=1;print @*x;");
        // "more than 4 members and stars on one another: 4 at the fifth one (3, if that is no field)"
        bad(4, "let x=box box box box box 1;print @*****x;");
        Check.fault(3, "struct A{a:B}struct B{a:C}struct C{a:D}struct D{a:F}struct F{a:int}fn g(x:A){x.a.a.a.a.@b;}" + main(""));
        // "& and &mut of a place, of no reference: a reference (else 4 at the &)"
        bad(4, "@&1;");
        bad(4, "let mut x=1;let r=&mut x;@&r;");
        // "a call: a function (3), as many exps as parameters (4 at its name), each of its type (4 at the exp)"
        Check.fault(3, s + main("@S(1);"));
        Check.fault(4, s + main("(@f(1));"));
        Check.fault(4, s + main("f(1,@2);"));
        // "token (int); read: int"
        bad(4, "@token(true);");
        bad(4, "if @read{}");
        // "new: a struct (3 at its name), each of its fields once .., each of its type (4 at the exp)"
        Check.fault(3, s + main("new @E{A:1};"));
        Check.fault(3, s + main("new S{@c:1};"));
        Check.fault(3, s + main("new S{a:1,@a:y};"));
        Check.fault(4, s + main("print (@new S{a:1}).a;"));
        Check.fault(4, s + main("new S{b:@box true};"));
        // "name::name: an enum (3), a variant of it (3 at that name), as many parts (4), of their types (4 at the exp)"
        Check.fault(3, s + main("@S::a;"));
        Check.fault(3, s + main("E::@C;"));
        Check.fault(4, s + main("@E::B(1);"));
        Check.fault(4, s + main("E::B(1,@2);"));
        // "a member: of a place that is a struct (4), one of its fields (3)"
        Check.fault(4, s + main("print new S{a:1,b:box 2}.@a;"));
        Check.fault(3, s + main("let x=new S{a:1,b:box 2};print x.@c;"));
        Check.fault(4, s + main("let x=new S{a:1,b:box 2};let r=&x;print r.@a;"));
    }

    private static void statements() {
        // "A name that is no variable in scope: 3. A variable in scope hides others of its name."
        bad(3, "{let x=1;}print @x;");
        writes("let x=1;let x=2;{let x=3;print x;}print x;", "3\n2\n");
        // "let: its type is the one told, or its exp's (4 at the exp, if they differ, or it is nothing)"
        bad(4, "let x:bool=@1;");
        bad(4, "let x=@main();");
        // "without either: that of the first exp that is assigned to it in the text's order (as a whole)"
        fine("let x;if read==0{x=true;}else{x=false;}if x{}");
        bad(4, "let x;if read==0{x=1;}else{x=@false;}");
        // "a use ahead of that: 4 at the name; never used, it has no cells"
        bad(4, "let x;let y=(@x);");
        fine("let x;let y;{let x;}");
        // "Assignment: a place of the exp's type (4 at the exp, also if that is nothing)."
        bad(4, "let mut x=1;x=@(true);");
        bad(4, "let mut x=1;x=@main();");
        // "if, while: bool (4 at the exp)."
        bad(4, "if @1{}");
        bad(4, "while @token(1){}");
        // "match: any exp that is an enum, or (with & or &mut) a place of one (4 at the exp)"
        bad(4, "match @1{}");
        bad(4, "let x=1;match &@x{}");
        // "each variant once, all of them (3 for no variant, or twice; 4 at match for a missing one)"
        String e = "enum E{A,B(int,token)}";
        Check.fault(3, e + main("match E::A{A=>{}B(x,y)=>{}@A=>{}}"));
        Check.fault(4, e + main("@match E::A{B(x,y)=>{}}"));
        // "as many names as parts (without brackets for none): variables of the parts' types, or references to them"
        Check.fault(4, e + main("match E::A{A=>{}@B(x)=>{}}"));
        Check.writes(e + main("match E::B(5,token(6)){A=>{}B(x,y)=>{print x;y;print 7;}}"), "5\nd6\n7\n");
        Check.writes(e + main("let e=E::B(5,token(6));match &e{A=>{}B(x,y)=>{print *x;let z:&token=y;}}"), "5\nd6\n");
        Check.fault(4, e + main("let e=E::B(5,token(6));match &e{A=>{}B(x,y)=>{print @x;}}"));
        // "return: an exp of the function's type (4 at the exp), or no exp for nothing." "without an exp where one is asked: 4"
        Check.fault(4, "fn f()->int{return @true;}" + main(""));
        Check.fault(4, "fn f()->int{@return;}" + main(""));
        bad(4, "return @1;");
        // "print: int or bool (4 at the exp). An exp as a statement: any type."
        bad(4, "print @box 1;");
        fine("1;true;box 1;let x=1;&x;if false{main();}");
        // "Two names of an arm may be alike (the later one hides)."
        Check.writes("enum F{A(int,bool)}" + main("match F::A(1,true){A(x,x)=>{print x;}}"), "true\n");
        // "A place that is used as a value and can't be moved: 4 when it is typed, ahead of what asks for its type."
        bad(4, "let t=token(1);let r=&t;print @*r+y;");
    }

    private static void waysAndReturns() {
        // "A function with a result ends with return on all ways (a return; an if with else, or a match, all of whose blocks do;
        // a block one of whose statements does, whatever stands behind it; a while never): else 4 at its block's }"
        String e = "enum E{A,B}";
        Check.fine("fn f()->int{return 1;}" + main(""));
        Check.fine("fn f()->int{if read==0{return 1;}else{{return 2;}print 1;}}" + main(""));
        Check.fine(e + "fn f(e:E)->int{match e{A=>{return 1;}B=>{return 2;}}}" + main(""));
        Check.fault(4, "fn f()->int{if read==0{return 1;}@}" + main(""));
        Check.fault(4, e + "fn f(e:E)->int{match e{A=>{return 1;}B=>{}}@}" + main(""));
        Check.fault(4, "fn f()->int{while true{return 1;}@}" + main(""));
        Check.fault(4, "fn f()->int{{{}}@}" + main(""));
        // "What stands where no way comes is typed, but has no faults 5 and 6."
        bad(3, "return;@y;");
        bad(4, "if read==0{return;}else{return;}print @token(1);");
        fine("let t=token(1);t;return;t;");
        fine("let mut x=1;let r=&x;return;x=2;print *r;");
        bad(5, "let t=token(1);t;if read==0{return;}@t;");
        bad(6, "let mut x=1;let r=&x;while read==0{return;}@x=2;print *r;");
    }

    private static void mutable() {
        // "MUTABLE is: a variable of let mut; what * of a &mut reference or of a mutable box is; a member of a mutable place."
        String s = "struct S{a:int,b:box int}fn s()->S{return new S{a:1,b:box 2};}";
        Check.writes(s + main("let mut x=s();x.a=3;*x.b=4;let r=&mut x;(*r).a=(*r).a+1;*(*r).b=*(*r).b+1;print x.a+*x.b;"), "9\n");
        Check.fault(4, s + main("let x=s();@x.a=3;"));
        Check.fault(4, s + main("let x=s();@*x.b=3;"));
        Check.fault(4, s + main("let mut x=s();let r=&x;@(*r).a=3;"));
        Check.fault(4, s + "fn f(x:S){@x.a=1;}" + main(""));
        // "(but: a variable without mut as a whole, as long as it cannot have a value there, see MOVES)"
        Check.fine(s + main("let x:S;x=s();let y=x;x=s();"));
        Check.fault(5, s + main("let x:S;x=s();@x=s();"));
        // "&mut and match &mut of one that is not: 4 at the place"
        Check.fault(4, s + main("let x=s();let r=&mut @x.a;"));
        Check.fault(4, "enum E{A}" + main("let x=E::A;match &mut @x{A=>{}}"));
    }

    // ==== MOVES

    private static void moves() {
        // "it must be a variable, members of one, or one star (of a box) on such a place"
        String s = "struct S{a:token,b:box T}struct T{t:token}fn s()->S{return new S{a:token(1),b:box new T{t:token(2)}};}";
        Check.writes(s + main("let x=s();let y=x.a;let z=*x.b;print 0;"), "0\nd2\nd1\n");
        Check.fault(4, s + main("let x=s();let y=@(*x.b).t;"));
        Check.fault(4, s + main("let x=s();let r=&x;let y=@*r;"));
        bad(4, "let b=box box token(1);let y=@**b;");
        // "that box is taken apart, its cells freed, the box moved"
        OwnedPlaces x = Check.runs(main("let b=box token(1);let t=*b;let c=box token(2);"), 99, 0, "d2\nd1\n");
        Check.due("cells of a box taken apart", x.count(2), 1);
        bad(5, "let b=box token(1);let t=*b;let c=@b;");
        // "Uses in conditions, operands, a statement that is an exp alone, print, token, arguments, fields, parts, box, right
        // sides, return, match"
        String[] uses = {"if @x{}", "while @x{}", "1==1&&@x;", "@x;", "print @x;", "f(@x);", "new B{b:@x};", "E::A(@x);", "box @x;",
            "let y=@x;", "y=@x;", "!@x;"};
        for (String use : uses) {
            Check.fault(5, "struct B{b:bool}enum E{A(bool)}fn f(b:bool){}" + main("let mut y=true;let x:bool;" + use));
        }
        Check.fault(5, main("let x:int;token(@x);"));
        Check.fault(5, "fn f()->int{let x:int;return @x;}" + main(""));
        Check.fault(5, "enum E{A}" + main("let x:E;match @x{A=>{}}"));
        // "& and &mut use nothing."
        fine("let mut t=token(1);&t;&mut t;t;");
    }

    private static void parts() {
        String s = "struct S{a:token,t:T}struct T{b:token,c:token}fn s()->S{return new S{a:token(1),t:new T{b:token(2),c:token(3)}};}";
        // "A variable consists of PARTS: itself, or, of a struct, the parts of its fields."
        Check.fine(s + main("let x=s();x.a;x.t.b;x.t.c;"));
        Check.fault(5, s + main("let x=s();x.t.b;x.a;@x.t;"));
        Check.fault(5, s + main("let x=s();x.t;x.a;@x.t.c;"));
        // "from the variable's let without an exp, or a move of it or of what it lies in, on, until it, or what it lies in, is
        // assigned (a member of a variable without a value, too)"
        Check.fault(5, s + main("let x:S;@x.t.b;"));
        Check.fine(s + main("let mut x:S;x.t=new T{b:token(1),c:token(2)};x.t.b;x.a=token(3);x.t.b=token(4);x;"));
        Check.fine(s + main("let mut x=s();x.t.b;x.t.c;x.t=new T{b:token(4),c:token(5)};x.t;x=s();x;"));
        Check.fault(5, s + main("let mut x=s();x;x.t.b=token(1);x.t.b;x.a=token(2);@x.t;"));
        // "(by all ways that come to it, conditions being either)"
        Check.fault(5, s + main("let x=s();if false{x.a;}@x;"));
        Check.fault(5, s + main("let x=s();while false{x.a;return;}if true{x.a;}&@x;"));
    }

    private static void faultFive() {
        // "a use (copy, move, borrow, match) of a place one of whose parts may be without a value"
        bad(5, "let x:int;let y=@x;");
        bad(5, "let x:token;let y=@x;");
        bad(5, "let x:int;let y=&@x;");
        Check.fault(5, "enum E{A}" + main("let x:E;match &@x{A=>{}}"));
        // "or, of a place with stars, the part that the first star is of"
        bad(5, "let b=box 1;b;print @*b;");
        bad(5, "let b=box box 1;let c=*b;print @**b;");
        Check.fine("struct S{b:box int,c:token}" + main("let s=new S{b:box 1,c:token(2)};s.c;print *s.b;"));
        // "an assignment through a star whose part (of the first star) may be without one"
        bad(5, "let mut b=box 1;b;@*b=2;");
        fine("let mut b=box 1;b;b=box 2;*b=3;");
        // "an assignment to a whole variable that is not mut, a part of which MAY HAVE a value (by some way)"
        bad(5, "let x:int;if read==0{x=1;}@x=2;");
        Check.fault(5, "struct S{a:token,b:token}" + main("let s=new S{a:token(1),b:token(2)};s.a;@s=new S{a:token(1),b:token(2)};"));
        // "the functions in order, in each the first place (told at its first token) in the text's order"
        Check.fault(5, "fn f(){let x:int;print @(x);}" + main("let y:int;y;"));
        bad(5, "let x:int;let y=1;@y=x;");
    }

    // ==== LOANS

    private static void loans() {
        // "& and &mut of a place (and of a part of it, in match & and &mut) make a LOAN of it, shared or not"
        bad(6, "let mut x=1;let r=&x;@x=2;print *r;");
        bad(6, "let mut x=1;let r=&mut x;print @x;print *r;");
        String e = "enum E{A,B(int)}";
        Check.fault(6, e + main("let mut e=E::B(1);match &e{A=>{}B(n)=>{@e=E::A;print *n;}}"));
        Check.fault(6, e + main("let mut e=E::B(1);match &mut e{A=>{}B(n)=>{let r=&@e;*n=2;}}"));
        Check.fine(e + main("let mut e=E::B(1);match &e{A=>{}B(n)=>{let r=&e;print *n;}}"));
        // "it holds, too, what each reference holds through which the place goes by a star"
        bad(6, "let mut x=box 1;let r=&x;let s=&**r;@x=box 2;print *s;");
        // "A copied or moved reference is held by who gets it"
        bad(6, "let mut x=1;let r=&x;let s=r;@x=2;print *s;");
        bad(6, "let mut x=1;let r=&mut x;let s=r;@x=2;print *s;");
        // "the result of a call, if it is a reference, holds what its arguments hold (of a life: those ..)"
        String f = "fn f(a:&int,b:&int)->&int{return a;}fn g<'a>(a:&'a int,b:&int)->&'a int{return a;}fn v(a:&int)->int{return *a;}";
        Check.fault(6, f + main("let mut x=1;let mut y=2;let r=f(&x,&y);@y=3;print *r;"));
        Check.fine(f + main("let mut x=1;let mut y=2;let r=g(&x,&y);y=3;print *r;"));
        Check.fault(6, f + main("let mut x=1;let mut y=2;let r=g(&x,&y);@x=3;print *r;"));
        Check.fine(f + main("let mut x=1;let r=v(&x);x=3;print r;"));
        // "A variable that is assigned a reference holds no longer what it did."
        fine("let mut x=1;let y=2;let mut r=&x;r=&y;x=3;print *r;");
    }

    private static void alive() {
        // "A loan is ALIVE at a point if by some way to there a variable .. holds it that by some way from there is used"
        fine("let mut x=1;let r=&x;print *r;x=2;");
        bad(6, "let mut x=1;let y=2;let mut r=&y;if read==0{r=&x;}@x=2;if read==0{print *r;}");
        // "(or a value that is not used up yet, within a statement)"
        String f = "fn f(a:&mut int,b:int)->int{return b;}";
        Check.fault(6, f + main("let mut x=1;f(&mut x,@x);"));
        Check.fine(f + main("let mut x=1;f(&mut x,1)+x+f(&mut x,2);"));
        Check.fault(6, f + main("let mut x=1;f(&mut x,f(&mut @x,1));"));
        // "ahead of being assigned or going out of scope"
        fine("let mut x=1;let y=2;let mut r=&x;x=2;r=&y;print *r;");
        fine("let mut x=1;while read==0{let r=&x;print *r;}x=2;");
        fine("let mut x=1;let y=1;let mut r=&y;while read==0{r=&x;print *r;r=&y;x=2;}");
        // "What a function returns is used behind its end."
        Check.fault(6, "fn f()->&int{let x=1;@return &x;}" + main(""));
        Check.fault(6, "fn f(b:box int)->&int{let r=&*b;@return r;}" + main(""));
    }

    private static void outerLoans() {
        // "A parameter that is a reference holds an OUTER loan from the beginning, of its life, or of none; nothing meets it."
        Check.fine("fn f(a:&mut int)->&mut int{*a=1;let b=&mut *a;*b=2;*a=3;return a;}" + main(""));
        // "Of a function whose result has a life, what is returned may hold outer loans of that life alone."
        Check.fault(6, "fn f<'a,'b>(a:&'a int,b:&'b int)->&'b int{return @a;}" + main(""));
        Check.fault(6, "fn f<'a>(a:&'a int,b:&int)->&'a int{return @b;}" + main(""));
        Check.fine("fn f<'a,'b>(a:&'a int,b:&'b int)->&'b int{return b;}" + main(""));
        Check.fine("fn f<'a,'b>(a:&'a int,b:&'b int)->&int{if *a==0{return a;}return b;}" + main(""));
    }

    private static void faultSix() {
        // "the functions in order (each behind its moves), in each the first in the text's order"
        String loan = "let mut x=1;let r=&x;@x=2;print *r;";
        Check.fault(6, "fn f(){" + loan + "}" + main("let y:int;y;"));
        Check.fault(5, "fn f(){" + loan.replace("@", "") + "let y:int;@y;}" + main(""));
        bad(6, loan + "{" + loan.replace("@", "") + "}");
        // "the exp of a return that may hold an outer loan which it may not"
        Check.fault(6, "fn f<'a>(a:&'a int,b:&int)->&'a int{let mut r=a;while *r==0{r=b;}return @(r);}" + main(""));
        // "an access (told at the first token of its place) that meets a loan that is alive just behind it"
        bad(6, "let mut x=box 1;let r=&x;@*x=2;print **r;");
        // "held by another than what it gives itself"
        fine("let mut x=1;let mut r=&mut x;r=&mut *r;let s=r;*s=1;");
        fine("let mut x=1;while read==0{let r=&mut x;*r=2;}");
        // "OVERLAP: one is the other, or a member, star or part (of a variant) of it"
        String s = "struct S{a:int,b:box int}fn s()->S{return new S{a:1,b:box 2};}";
        Check.fault(6, s + main("let mut x=s();let r=&x;@x.a=2;print (*r).a;"));
        Check.fault(6, s + main("let mut x=s();let r=&x.a;@x=s();print *r;"));
        Check.fault(6, s + main("let mut x=s();let r=&x.b;@*x.b=2;print **r;"));
        Check.fault(6, s + main("let mut x=s();let r=&*x.b;@x.b=box 2;print *r;"));
        Check.fine(s + main("let mut x=s();let r=&x.a;*x.b=2;x.b=box 3;print *r;"));
        Check.fine(s + main("let mut x=s();let y=s();let r=&y;x=s();print (*r).a;"));
    }

    private static void meetings() {
        // "a copy, or &, meets loans that are not shared"
        fine("let x=1;let r=&x;let y=x;let s=&x;print *r;");
        bad(6, "let mut x=1;let r=&mut x;let y=@x;print *r;");
        bad(6, "let mut x=1;let r=&mut x;let y=&@x;print *r;");
        // "a move, &mut, an assignment (which drops what was there), the taking apart of a box .. meet all"
        bad(6, "let t=token(1);let r=&t;let u=@t;&*r;");
        bad(6, "let mut x=1;let r=&x;&mut @x;print *r;");
        bad(6, "let mut x=1;let r=&x;@x=2;print *r;");
        bad(6, "let b=box token(1);let r=&b;let u=@*b;&*r;");
        // "a variable that goes out of scope (told at its block's }, for names of an arm the arm's .. or at return"
        bad(6, "let r;{let x=1;r=&x;@}print *r;");
        Check.fault(6, "enum E{A(int)}" + main("let r;match E::A(1){A(n)=>{r=&n;@}}print *r;"));
        Check.fault(6, "fn f(a:int)->&int{{let b=1;if read==0{@return &b;}}return &a;}" + main(""));
        // "But an assignment to a place that is a reference, and the going out of scope of a variable, do not meet loans of
        // places that go through a star of a reference in it."
        fine("let mut x=1;let mut y=2;let mut r=&mut x;let s=&mut *r;r=&mut y;*s=3;");
        fine("let mut x=1;let s;{let r=&mut x;s=&mut *r;}*s=3;");
        // "A match by value is a move of its place."
        Check.fault(6, "enum E{A}" + main("let e=E::A;let r=&e;match @e{A=>{}}&*r;"));
        Check.fault(6, "enum E{A}" + main("let e=box E::A;let r=&e;match @*e{A=>{}}&*r;"));
    }

    // ==== RUNNING

    private static void costs(int cost, String text) {
        OwnedPlaces x = Check.runs(text, 500, 0, "");
        Check.due("fuel of " + text, 500 - x.count(0), cost);
        Check.runs(text, cost - 1, 8, "");
    }

    private static void fuelAndOrder() {
        // "A program is run by calling main." "FUEL: one for each statement that begins (..), each round of a while (..; the one
        // that is none, too) and each call (main's, too): fault 8 FUEL, if there is none."
        costs(1, main(""));
        costs(5, main("let x=1;{x;}return;"));
        costs(3, main("if true{{}}else{1;2;}"));
        costs(3, main("if false{}else if true{1;}"));
        costs(3 + 2 * 2 + 1, main("let mut i=0;while i<2{i=i+1;}"));
        costs(5, "fn f()->int{return 1;}" + main("f();{}"));
        costs(3, "enum E{A}" + main("match E::A{A=>{1;}}"));
        // "ORDER: from the left, operands ahead of signs; && and || without the right side, if the left one tells"
        String f = "fn f(n:int)->int{print n;return n;}";
        Check.writes(f + main("f(1)+f(2)*f(3);f(4)==5&&f(6)==6;f(7)==7||f(8)==8;"), "1\n2\n3\n4\n7\n");
        // "an assignment: the exp, then the place, then what was there is dropped, then it is set"
        Check.writes("fn t(n:int)->token{print n;return token(n);}" + main("let mut x=t(1);x=t(2);print 0;"), "1\n2\nd1\n0\nd2\n");
    }

    private static void panicsAndDepth() {
        // "Fault 7 PANIC: + - * and unary - beyond 64 bits, / and % by 0, or of the least by -1"
        String least = "(-9223372036854775807-1)";
        String[] panics = {"9223372036854775807+1", "-9223372036854775807-2", "3037000500*3037000500", "-" + least, "1/0", "1%0",
            least + "/-1", least + "%-1"};
        for (String exp : panics) {
            Check.runs(main("print 1;print " + exp + ";"), 50, 7, "1\n");
        }
        // "(/ rounded to 0, % with the first one's sign)"
        writes("print -7/2;print 7/-2;print -7%2;print 7%-2;", "-3\n-3\n-1\n1\n");
        // "At most 60 calls in one another (main's is one): else fault 10 DEEP (behind its fuel, which is taken)."
        String f = "fn f(n:int)->int{if n<2{return 1;}return f(n-1)+1;}";
        Check.writes(f + main("print f(59);"), "59\n");
        Check.runs(f + main("print f(60);"), 500, 10, "");
        // Each of 60 calls takes one, with one for its statement; so does the call that is too deep.
        OwnedPlaces x = Check.runs(main("main();"), 125, 10, "");
        Check.due("fuel behind 61 calls", x.count(0), 4);
        Check.runs(main("main();"), 120, 8, "");
    }

    private static void boxes() {
        // "box e: first e, then a BLOCK of as many cells as e's type has: the first place from the lowest on"
        String s = "struct S{a:int,b:int,c:int}fn s()->S{return new S{a:1,b:2,c:3};}fn d(b:box S){}";
        String five = "let a=box s();let b=box s();let c=box s();let e=box s();let g=box s();";
        room(s + main(five), 0, 15);
        // "none: fault 9 ROOM. It is freed when the box is dropped, or taken apart."
        room(s + main(five + "let h=box 1;let i=box 1;"), 9, 16);
        room(s + main(five + "d(b);let h=box s();let i=box 1;let j=box 1;"), 9, 16);
        room(s + main(five + "let h=*b;let i=box s();"), 0, 15);
        room(s + main(five + "d(b);d(e);let h=box 1;let i=box s();"), 0, 15);
        // "(all free when a run begins)"
        OwnedPlaces y = new OwnedPlaces(16);
        for (int i = 0; i < 3; i++) {
            String text = s + main(five + "let h=box 1;let i=box 1;");
            Check.feed(y, text);
            Check.due("no room", y.run(text.length(), 99), 9);
            Check.due("in use", y.count(1), 16);
        }
    }

    private static void room(String text, int fault, int most) {
        OwnedPlaces x = Check.fed(16, text);
        Check.due("fault of " + text, x.run(text.length(), 99), fault);
        Check.due("most of " + text, x.count(2), most);
    }

    private static void dropped() {
        // "DROPPED is: what a statement's exp gave (at its end); what is assigned over; what a variable has, when it goes out of
        // scope (at a block's end, also of an arm and a round; at return, behind the exp; a function's parameters last)"
        writes("token(1);print 2;", "d1\n2\n");
        writes("let mut t=token(1);t=token(2);print 3;", "d1\n3\nd2\n");
        writes("{let t=token(1);print 2;}print 3;", "2\nd1\n3\n");
        writes("let mut i=0;while i<2{let t=token(i);i=i+1;}print 3;", "d0\nd1\n3\n");
        Check.writes("enum E{A(token)}" + main("match E::A(token(1)){A(t)=>{print 2;}}print 3;"), "2\nd1\n3\n");
        Check.writes("fn n()->int{print 7;return 8;}fn f(a:token,b:token)->int{let c=token(3);return n();}"
            + main("print f(token(1),token(2));"), "7\nd3\nd2\nd1\n8\n");
        // "the latest one first, and only parts that have a value; what is moved is dropped by who got it"
        Check.writes("struct S{a:token,b:token}fn g(t:token){print 0;}" + main("let s=new S{a:token(1),b:token(2)};let t=token(3);"
            + "g(s.a);print 4;"), "0\nd1\n4\nd3\nd2\n");
        // "a token writes 'd' and its number in digits (below 0 with - ahead); a struct drops its fields in order, an enum its
        // parts, a box what is in it, then its block is freed. Others nothing."
        writes("token(-12);token(0);1;true;box 1;", "d-12\nd0\n");
        Check.writes("struct S{a:token,b:box E}enum E{A(token,token),B}" + main("new S{b:box E::A(token(2),token(3)),a:token(1)};E::B;"),
            "d1\nd2\nd3\n");
    }

    private static void writtenAndRead() {
        // "read gives the next of the input, which is gone then; 0, if there is none."
        String text = main("print read;print read;");
        OwnedPlaces x = Check.fed(500, text);
        x.input(-3);
        Check.due("run", x.run(text.length(), 9), 0);
        // "print writes a number in digits, 'true' or 'false'. Each of these, a token's too, ends with 10."
        Check.due("written", Check.fetchAll(x), "-3\n0\n");
        writes("print true;print false;print 10;token(5);", "true\nfalse\n10\nd5\n");
        // "A fault stops at once, nothing is dropped; what was written waits, input that was read is gone."
        text = main("let t=token(1);print read;print 1/0;");
        Check.feed(x, text);
        x.input(4);
        x.input(5);
        Check.due("panic", x.run(text.length(), 9), 7);
        Check.due("left", x.count(5), 1);
        Check.due("written", Check.fetchAll(x), "4\n");
        // "At most 4000 bytes wait; what is beyond is left out, byte by byte."
        text = main("let mut i=0;while i<500{print 12345678;i=i+1;}");
        Check.feed(x, text);
        Check.due("many", x.run(text.length(), 2000), 0);
        Check.due("waiting", x.count(4), 4000);
        String all = Check.fetchAll(x);
        Check.due("all that waits", all, Check.times(445, "12345678\n").substring(0, 4000));
        // "A call that is refused changes nothing."
        Check.due("refused", x.run(1, 1), -1);
        Check.state("behind a refused call", x, -1, 2000 - 3 - 501 - 2 * 500, 0, 0, 0, 0, 1);
    }
}
