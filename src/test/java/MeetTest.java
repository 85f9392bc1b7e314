/** Where several sentences of the document meet in one text: which of two faults is told, and where. */
public final class MeetTest {
    // The order in which faults are met: one of a lower stage is told, wherever it stands.
    private static final int READ = 0;
    private static final int NAMES = 1;
    private static final int TYPES = 2;
    private static final int SIZES = 3;
    private static final int MAIN = 4;
    private static final int STATEMENTS = 5;
    private static final int BEHIND_STATEMENTS = 6;
    private static final int MOVES = 7;
    private static final int LOANS = 8;

    private static final String ALL = "struct P{a:int,t:token}struct Q{p:P,b:box P}enum E{A,B(int,token),C(P)}"
        + "fn n(){}fn f(a:int,b:&int,p:P)->int{return a;}fn g(t:token)->bool{return true;}";

    /** A piece of text with a fault in it: when it is met, which one, and the piece with @ at its place. */
    private record Piece(int stage, int fault, String marked) {
        /** With names of its own, so that two of them can stand in one text. */
        Piece named(String own) {
            return new Piece(stage, fault, marked.replace("$", own));
        }

        String plain() {
            return marked.replace("@", "");
        }
    }

    public static void main(String[] args) {
        itemsInPairs();
        itemsInThrees();
        itemsWithMain();
        statementsInPairs();
        statementsInFunctions();
        operands();
        calls();
        builds();
        variants();
        assignments();
        borrows();
        steps();
        lets();
        unknownLets();
        matches();
        returns();
        notMovable();
        declaredTypes();
        movesAndLoans();
        brackets();
        Check.end();
    }

    private static String main(String body) {
        return "fn main(){" + body + "}";
    }

    /** The one of them that is told; the first in the text, if they are of one stage. */
    private static int told(Piece... pieces) {
        int best = 0;
        for (int i = 1; i < pieces.length; i++) {
            if (pieces[i].stage < pieces[best].stage) {
                best = i;
            }
        }
        return best;
    }

    private static void meet(String head, String tail, Piece... pieces) {
        int best = told(pieces);
        StringBuilder all = new StringBuilder(head);
        for (int i = 0; i < pieces.length; i++) {
            all.append(i == best ? pieces[i].marked : pieces[i].plain());
        }
        Check.fault(pieces[best].fault, all + tail);
    }

    // ==== items: each fault with each other

    private static final Piece[] ITEMS = {
        new Piece(READ, 1, "struct $s{@}"), new Piece(READ, 1, "fn $f(){let x=@;}"), new Piece(READ, 1, "fn $f(){x+1@=2;}"),
        new Piece(READ, 1, "fn $f(){@#}"), new Piece(READ, 1, "enum $e{A(@)}"),
        new Piece(READ, 1, "fn $f(){match &1@{}}"), new Piece(READ, 1, "// $ @\u0001\nfn $f(){}"),
        new Piece(READ, 1, "fn $f(a:&@' int){}"), new Piece(READ, 1, "fn $f(){print @9223372036854775808;}"),
        new Piece(READ, 2, "fn $f<'a,'b,'c,'d,'e,'f,'g,'h,@'i>(){}"), new Piece(READ, 2, "fn $f(){" + Check.times(15, "{")
            + "@{" + Check.times(16, "}") + "}"),
        new Piece(READ, 2, "struct $s{a:" + Check.times(16, "box ") + "@box int}"),
        new Piece(READ, 2, "fn $f(){x" + Check.times(16, ".a") + "@.a;}"),
        new Piece(NAMES, 3, "struct $s{a:int}struct @$s{a:int}"), new Piece(NAMES, 3, "fn $f(){}enum @$f{A}"),
        new Piece(NAMES, 3, "enum $e{A}fn @$e(){}"),
        new Piece(TYPES, 3, "struct $s{a:@$no}"), new Piece(TYPES, 4, "fn $f(a:box @&int){}"),
        new Piece(TYPES, 3, "enum $e{A,@A}"), new Piece(TYPES, 3, "fn $f<'a>(a:&@'b int){}"),
        new Piece(TYPES, 3, "fn $f()->@$no{}"), new Piece(TYPES, 4, "enum $e{A(int,@&mut int)}"),
        new Piece(TYPES, 3, "fn $f(a:int,@a:int){}"), new Piece(TYPES, 3, "fn $f<'a,@'a>(){}"),
        new Piece(TYPES, 3, "struct $s{a:int,@a:bool}"), new Piece(TYPES, 3, "fn $f()->&@'a int{return $f();}"),
        new Piece(SIZES, 4, "struct @$s{a:$s}"), new Piece(SIZES, 4, "enum @$e{A(int,$e)}"),
        new Piece(SIZES, 4, "struct $p{a:int,b:int,c:int,d:int,e:int,f:int}struct @$s{a:$p,b:$p,c:$p}"),
        new Piece(STATEMENTS, 3, "fn $f(){@y;}"), new Piece(STATEMENTS, 4, "fn $f(){print @token(1);}"),
        new Piece(STATEMENTS, 4, "fn $f()->int{@}"), new Piece(STATEMENTS, 3, "fn $f(){let x:@$no;}"),
        new Piece(STATEMENTS, 4, "fn $f(a:int){&mut @a;}"), new Piece(STATEMENTS, 3, "fn $f(){@$g();}"),
        new Piece(STATEMENTS, 4, "fn $f<'a>(){let x:&@'a int;}"),
        new Piece(MOVES, 5, "fn $f(){let t=token(1);t;@t;}"), new Piece(MOVES, 5, "fn $f(a:int){@a=1;}"),
        new Piece(MOVES, 6, "fn $f(){let mut x=1;let r=&x;@x=2;print *r;}"),
        new Piece(MOVES, 6, "fn $f(a:int)->&int{@return &a;}"),
    };

    private static void itemsInPairs() {
        for (Piece one : ITEMS) {
            for (Piece other : ITEMS) {
                meet("", main(""), one.named("p"), other.named("q"));
                meet("fn h(){}", "", one.named("p"), new Piece(99, 0, main("")), other.named("q"));
            }
        }
    }

    private static void itemsInThrees() {
        for (int i = 0; i < ITEMS.length; i++) {
            for (int k = 0; k < ITEMS.length; k++) {
                Piece third = ITEMS[(i * 7 + k * 11) % ITEMS.length];
                meet("fn h(){}", main("print 1;"), ITEMS[i].named("p"), ITEMS[k].named("q"), third.named("r"));
            }
        }
    }

    /** What is asked of main comes behind all sizes and ahead of all statements. */
    private static void itemsWithMain() {
        Piece[] mains = {new Piece(MAIN, 4, "fn @main(a:int){}"), new Piece(MAIN, 4, "fn @main()->int{return 1;}"),
            new Piece(MAIN, 4, "fn @main<'a>(){}"), new Piece(MAIN, 4, "fn @main()->int{y;}")};
        for (Piece piece : ITEMS) {
            for (Piece main : mains) {
                meet("", "", piece.named("p"), main);
                meet("", "", main, piece.named("p"));
            }
            if (piece.stage > MAIN) {
                Check.fault(3, piece.named("p").plain() + " @");
            } else {
                Check.fault(piece.fault, piece.named("p").marked + " ");
            }
        }
    }

    // ==== statements of one function: each fault with each other

    private static final Piece[] BODIES = {
        new Piece(STATEMENTS, 3, "print @y$;"), new Piece(STATEMENTS, 4, "print @token(1);"),
        new Piece(STATEMENTS, 4, "1@+true;"), new Piece(STATEMENTS, 4, "let $=1;&mut @$;"),
        new Piece(STATEMENTS, 3, "let $:@No;"), new Piece(STATEMENTS, 4, "let $:int=@true;"),
        new Piece(STATEMENTS, 4, "let $;print @$;"), new Piece(STATEMENTS, 4, "if @1{}"), new Piece(STATEMENTS, 4, "while @1{}"),
        new Piece(STATEMENTS, 4, "@match E::A{A=>{}}"), new Piece(STATEMENTS, 4, "if true{return @true;}"),
        new Piece(STATEMENTS, 3, "{new @No{a:1};}"), new Piece(STATEMENTS, 4, "let $=box 1;*$=@true;"),
        new Piece(STATEMENTS, 4, "let $=box 1;@*$=1;"), new Piece(STATEMENTS, 4, "let $=new P{a:1,t:token(1)};let $b=&$;"
            + "let $c=@*$b;"), new Piece(STATEMENTS, 4, "@f();"), new Piece(STATEMENTS, 3, "let $=E::@D;"),
        new Piece(MOVES, 5, "let $=token(1);$;@$;"), new Piece(MOVES, 5, "let $:int;print @$;"),
        new Piece(MOVES, 5, "let $=1;@$=2;"), new Piece(MOVES, 5, "let $=token(1);while read==0{g(@$);}"),
        new Piece(MOVES, 5, "let $:P;if read==0{$=new P{a:1,t:token(1)};}&@$.a;"),
        new Piece(LOANS, 6, "let mut $=1;let $r=&$;@$=2;print *$r;"),
        new Piece(LOANS, 6, "let mut $=1;let $r=&mut $;print @$;*$r=2;"),
        new Piece(LOANS, 6, "let $r;{let $=1;$r=&$;@}print *$r;"),
        new Piece(LOANS, 6, "let mut $=token(1);let $r=&$;g(@$);&*$r;"),
    };

    private static void statementsInPairs() {
        for (Piece one : BODIES) {
            for (Piece other : BODIES) {
                meet(ALL + "fn main(){", "}", one.named("p"), other.named("q"));
                meet(ALL + "fn main(){while read==0{", "}}", one.named("p"), other.named("q"));
                meet(ALL + "fn main(){if read==0{", "}else{}}", one.named("p"), other.named("q"));
            }
            // A missing return is told behind all the function's statements, but ahead of moves and loans.
            meet(ALL + "fn h()->int{", "}" + main(""), one.named("p"), new Piece(BEHIND_STATEMENTS, 4, "if read==0{return 1;}@"));
        }
    }

    /** In functions one behind the other: types of all, then each one's moves and loans. */
    private static void statementsInFunctions() {
        for (Piece one : BODIES) {
            for (Piece other : BODIES) {
                Piece first = one.named("p");
                Piece second = other.named("q");
                boolean isSecond = first.stage > STATEMENTS && second.stage == STATEMENTS;
                String body = isSecond ? first.plain() : first.marked;
                String next = isSecond ? second.marked : second.plain();
                int fault = isSecond ? second.fault : first.fault;
                Check.fault(fault, ALL + "fn h(){" + body + "}fn i(){" + next + "}" + main(""));
                Check.fault(fault, ALL + main(body) + "fn i(){{" + next + "}}");
            }
            // The first function's missing return comes ahead of what is at fault in the next one.
            Check.fault(4, ALL + "fn h()->int{@}fn i(){" + one.named("p").plain() + "}" + main(""));
        }
    }

    // ==== within one exp: its parts ahead of itself

    private static void at(int fault, String body) {
        Check.fault(fault, ALL + "fn h(r:&P,m:&mut P,b:box P){" + body + "}" + main(""));
    }

    private static void operands() {
        String[] signs = {"+", "-", "*", "/", "%", "<", "<=", ">", ">=", "==", "!=", "&&", "||"};
        for (String sign : signs) {
            at(3, "@y" + sign + "z;");
            at(3, "token(1)" + sign + "@z;");
            at(4, "token(1)@" + sign + "token(2);");
            at(4, "(@-true)" + sign + "z;");
            at(4, "n()" + sign + "(@-true);");
            at(4, "n()@" + sign + "n();");
            // From the left: of three the first two ahead of the last.
            at(4, "(n()@" + sign + "1)" + sign + "z;");
            at(4, "@(*r).t" + sign + "z;");
            at(4, "1" + sign + "@(*r).t;");
            at(4, "print token(1)@" + sign + "1;");
            at(4, "!(1@" + sign + "n());");
        }
        at(4, "true@+1*2;");
        at(4, "1+true@*2+z;");
        at(3, "true+1*@z;");
        at(4, "1@+true==z;");
        at(4, "1+2@==true;");
        at(4, "1==1@&&2;");
        at(4, "print - @!1;");
        at(4, "print @-!true;");
        at(4, "@token(true)+z;");
        at(4, "(@box n())+z;");
    }

    private static void calls() {
        at(3, "@no(y,-true);");
        at(4, "@f(y);");
        at(4, "@f(y,1,2,3);");
        at(4, "@f(-true);");
        at(3, "f(@y,-true,z);");
        at(4, "f(@-true,y,z);");
        at(4, "f(1,@-true,z);");
        at(3, "f(1,@y,z);");
        at(4, "f(1,@1,z);");
        at(4, "f(@n(),z,1);");
        at(4, "print @f();");
        at(4, "f(f(@true,y,z),y,z);");
        at(4, "f(@f(1),y,z);");
        at(3, "f(@no(1),y,z);");
        at(4, "1@+n();");
        at(4, "@n(1)+z;");
        // What a call gives is asked behind all that is asked of it.
        at(4, "print token(@f());");
        at(4, "let x:bool=f(1,@2,*b);");
        at(4, "let v=1;let x:bool=@f(1,&v,*b);");
        at(4, "let v=1;let x:bool=f(1,&v,@*r);");
    }

    private static void builds() {
        at(3, "new @No{a:y};");
        at(3, "new @E{a:y};");
        at(3, "new P{@x:y};");
        at(3, "new P{a:@y,x:1};");
        at(4, "new P{a:@true,x:1};");
        at(3, "new P{a:1,@a:y};");
        at(3, "new P{a:1,@a:true,t:z};");
        at(4, "new P{t:@1,t:1};");
        at(4, "(@new P{a:1})+z;");
        at(3, "new P{a:@z};");
        at(4, "new P{a:@true};");
        at(4, "@new P{a:1};");
        at(4, "new Q{p:@new P{a:1},b:y};");
        at(4, "new Q{p:@new P{a:1}};");
        at(4, "@new Q{b:b};");
        at(4, "new Q{b:@*r};");
        at(4, "let x:int=@new P{a:1,t:token(1)};");
        at(4, "let x:int=@new P{a:1};");
    }

    private static void variants() {
        at(3, "@No::A(y);");
        at(3, "@P::A(y);");
        at(3, "E::@No(y);");
        at(4, "@E::A(y);");
        at(4, "@E::B(y);");
        at(4, "@E::B;");
        at(3, "E::B(@y,z);");
        at(4, "E::B(@true,z);");
        at(4, "E::B(1,@2)+z;");
        at(4, "E::B(1,@(*r).t);");
        at(4, "E::C(@*r)+z;");
        at(4, "E::C(@new P{a:1});");
        at(4, "(@E::C(*b,1))+z;");
        at(4, "let x:int=@E::C(*b);");
    }

    // ==== an assignment: the exp, the place, whether they fit, whether it is mutable

    private static void assignments() {
        at(3, "y=@z;");
        at(4, "y=@-true;");
        at(3, "@y=true;");
        at(3, "@y=n();");
        at(3, "@y.a=n();");
        at(3, "(*r).@no=true;");
        at(4, "(*r).a=@true;");
        at(4, "@(*r).a=1;");
        at(4, "(*r).a=@n();");
        at(4, "@*b=new P{a:1,t:token(1)};");
        at(4, "*b=@1;");
        at(4, "*b=@(*r);");
        at(4, "b.@a=true;");
        at(4, "let x=1;@*x=true;");
        at(4, "let x=1;x=@true;");
        at(4, "let x=1;x=@n();");
        // The exp's faults come ahead of the place's, though they stand behind it.
        at(3, "@y.a=1;let x:No;");
        at(4, "no.a.b=@token(true);");
        // Whether the variable may have a value is told with the moves.
        at(5, "let x=1;@x=2;");
        at(4, "let x=1;x=2;print @token(1);");
    }

    private static void borrows() {
        at(3, "&mut @y;");
        at(3, "& (*r).@no;");
        at(4, "@&mut r;");
        at(4, "@&1;");
        at(4, "&@*1;");
        at(4, "@&mut (1);");
        at(4, "&mut @*r;");
        at(4, "&mut @(*r).a;");
        at(4, "&mut @b;");
        at(4, "&mut @*b;");
        at(4, "let x=&mut @b;print y;");
        at(4, "let x:int=&mut @b;");
        at(4, "let x:int=@&b;");
        at(4, "f(1,&mut @b,y);");
        at(4, "let mut x=1;f(1,@&mut x,y);");
        at(4, "@-&b;");
        at(4, "-&mut @b;");
        at(4, "@box &b;");
        at(4, "box &mut @b;");
        at(4, "& &mut @b;");
    }

    /** More than 4 on one another: what the fifth one is asked for as a member comes ahead. */
    private static void steps() {
        String s = "struct S{a:T}struct T{a:U}struct U{a:V}struct V{a:W,b:box int}struct W{a:int}";
        Check.fault(4, s + "fn h(s:S){print s.a.a.a.a.@a+y;}" + main(""));
        Check.fault(3, s + "fn h(s:S){print s.a.a.a.a.@c+y;}" + main(""));
        Check.fault(3, s + "fn h(s:S){print s.a.a.a.@c.a;}" + main(""));
        Check.fault(4, s + "fn h(s:S){print @*s.a.a.a.b;}" + main(""));
        Check.fault(4, s + "fn h(s:S){print @*s.a.a.a.a;}" + main(""));
        Check.fault(4, s + "fn h(s:S){s.a.a.a.a.@a=true;}" + main(""));
        Check.fault(4, s + "fn h(s:S){&mut s.a.a.a.a.@a;}" + main(""));
        Check.fault(3, s + "fn h(s:S){s.a.a.a.a.a=@y;}" + main(""));
        Check.fault(2, s + "fn h(s:S){s.a.a.a.a.a.a.a.a.a.a.a.a.a.a.a.a@.a;}" + main(""));
    }

    // ==== let, match, return

    private static void lets() {
        at(3, "let x:@No=y;");
        at(4, "let x:box @&int=y;");
        at(4, "let x:&@'a int=y;");
        at(3, "let x:&'a @No=y;");
        at(3, "let x:int=@y;");
        at(3, "let x:int=@x;");
        at(4, "let x:int=@n();");
        at(4, "let x=@n();");
        at(4, "let x:P=@*r;");
        at(4, "let x:int=@*r;");
        at(4, "let x=@*m;");
        // A let is in scope behind its exp alone.
        at(3, "let x=1;{let y=x;let z=@z;}");
        Check.writes(main("let x=1;let x=x==1;print x;{let x=3;print x;}print x;"), "true\n3\ntrue\n");
    }

    private static void unknownLets() {
        at(4, "let x;x=@x;");
        at(4, "let x;x=@n();");
        at(3, "let x;x=@y;");
        at(4, "let x;x=@*r;");
        at(4, "let x;@x.a=1;");
        at(4, "let x;*@x=1;");
        at(4, "let x;&@x;x=1;");
        at(4, "let x;if true{x=1;}else{x=@true;}");
        at(4, "let x;while @x{x=true;}");
        at(4, "let x;x=1;x=@n();");
        at(5, "let x;x=1;@x=2;");
        at(5, "let x;if read==0{x=1;}print @x;");
        at(4, "let x;{let x=1;x;}print @x;");
        at(4, "let x;{let x;x=1;}print @x;");
        at(5, "let x;if read==0{return;x=1;}print @x;");
        // The first in the text's order tells, though no way comes to it.
        at(4, "let x;if read==0{return;x=1;}x=@true;");
    }

    private static void matches() {
        String all = "A=>{}B(i,t)=>{}C(p)=>{}";
        at(3, "match @y{No=>{}}");
        at(4, "match @1{No=>{z;}}");
        at(4, "match &@r{No=>{z;}}");
        at(4, "match &mut @(*r).a{No=>{z;}}");
        at(4, "let e=E::A;match &mut @e{No=>{z;}}");
        at(3, "match E::A{@No(x,y)=>{z;}}");
        at(3, "match E::A{A=>{}@A(x)=>{z;}}");
        at(4, "match E::A{@A(x)=>{z;}}");
        at(4, "match E::A{@B=>{z;}}");
        at(3, "match E::A{A=>{@z;}A=>{}}");
        at(3, "match E::A{A=>{@z;}B=>{}}");
        at(3, "match E::A{A=>{}B(x,y)=>{@z;}}");
        at(4, "@match E::A{A=>{}B(x,y)=>{}}print z;");
        at(3, "match E::A{" + all + "}print @z;");
        at(3, "match E::A{" + all + "@D=>{}}");
        at(3, "match E::A{" + all + "@A=>{}}");
        at(4, "match @*r{A=>{z;}}");
        at(3, "match E::C(*b){A=>{}B(i,t)=>{}C(p)=>{p.@no;}}");
        at(4, "match @E::B(1){A=>{}}");
        // Two names of an arm may be alike: the later one hides.
        at(4, "match E::A{A=>{}B(i,i)=>{print @i;}C(p)=>{}}");
        Check.writes("enum E{B(token,int)}" + main("match E::B(token(1),2){B(i,i)=>{print i;}}"), "2\nd1\n");
    }

    private static void returns() {
        Check.fault(3, "fn h()->int{return @y;}" + main(""));
        Check.fault(4, "fn h()->int{return @true;z;}" + main(""));
        Check.fault(4, "fn h()->int{@return;}fn i(){z;}" + main(""));
        Check.fault(4, ALL + "fn h()->P{return new P{a:@true};}" + main(""));
        Check.fault(4, ALL + "fn h(r:&P)->P{return @*r;}" + main(""));
        Check.fault(4, ALL + "fn h(r:&P)->int{return @*r;}" + main(""));
        Check.fault(4, "fn h(){return @1;}" + main("z;"));
        Check.fault(3, "fn h()->int{if true{return 1;}@z;}" + main(""));
        Check.fault(4, "fn h()->int{if true{return 1;}@}" + main("z;"));
        Check.fault(4, "fn h(a:int)->int{a=2;@}" + main(""));
        Check.fault(4, "fn h(a:int)->&int{if read==0{return &a;}@}" + main(""));
        Check.fault(6, "fn h(a:int)->&int{if read==0{@return &a;}return &a;}" + main(""));
        Check.fault(5, "fn h(t:token)->token{if read==0{return t;t;}t;return @t;}" + main(""));
    }

    /** A place that can't be moved is told when it is typed, ahead of what asks for its type. */
    private static void notMovable() {
        String[] uses = {"print @*r;", "if @*r{}", "while @*r{}", "match @*r{}", "@*r;", "@*r+1;", "1+@*r;", "!@*r;", "-@*r;",
            "box @*r;", "token(@*r);", "let x:int=@*r;", "let x=@*r;", "let mut x=1;x=@*r;", "f(@*r,1,2);", "g(@*r);",
            "new P{a:@*r};", "new P{t:@*r,t:1};", "E::B(@*r,1);", "return @*r;", "y=@*r;", "(*r).no=@*r;"};
        String[] places = {"*r", "*m", "(*r)", "((*m))", "(*r).t", "(*b).t", "(*m).t"};
        for (String use : uses) {
            for (String place : places) {
                at(4, use.replace("*r", place));
            }
        }
        // What is copied is read through any of them.
        at(4, "let x:bool=@(*r).a;");
        at(4, "(*r).a@+true;");
        at(3, "(*b).a+(*m).a+(*r).a+@z;");
    }

    private static void declaredTypes() {
        Check.fault(4, "struct S{a:@&No}" + main(""));
        Check.fault(3, "fn h(a:&@No,b:box &int){}" + main(""));
        Check.fault(4, "fn h(a:box @&int,b:No){}" + main(""));
        Check.fault(3, "fn h<'a>(a:&'b @No){}" + main(""));
        Check.fault(3, "fn h<'a>(a:&@'b int,a:int){}" + main(""));
        Check.fault(3, "fn h<'a>(a:&'a int,@a:&'b int){}" + main(""));
        Check.fault(3, "fn h<'a,@'a>(a:&'b No){}" + main(""));
        Check.fault(3, "fn h(a:&@'b int)->No{}" + main(""));
        Check.fault(3, "enum E{A(int,@No),A}" + main(""));
        Check.fault(3, "enum E{A(int),@A(No)}" + main(""));
        Check.fault(3, "struct S{a:@No,a:int}" + main(""));
        Check.fault(3, "struct S{a:int,@a:No}" + main(""));
        Check.fault(4, "struct S{a:S,b:box @&S}" + main(""));
        Check.fault(3, "struct S{a:S,b:box @No}" + main(""));
        Check.fault(3, "struct S{a:S}struct T{a:@No}" + main(""));
    }

    // ==== moves ahead of loans in one function, each by the text's order

    private static void movesAndLoans() {
        String loan = "let mut x=1;let r=&x;x=2;print *r;";
        at(5, loan + "let t=token(1);t;@t;");
        at(5, "let t=token(1);t;@t;" + loan);
        at(6, loan.replace("x=2", "@x=2"));
        // One place at fault both ways is told as a move.
        at(5, "let t=token(1);let q=&t;g(t);&*q;@t;");
        at(5, "let t=token(1);let q=&t;g(t);g(@t);&*q;");
        at(6, "let t=token(1);let q=&t;g(@t);&*q;");
        at(5, "let x=1;let q=&x;@x=2;print *q;");
        at(5, "let x:int;let q=&@x;print *q;");
        at(5, "let mut x=1;let q=&mut x;let s=q;@*q=1;*s=2;");
        at(6, "let mut x=1;let q=&mut x;let s=&mut *q;@*q=1;*s=2;");
        // The place stands ahead of the exp in the text, but is met behind it.
        at(5, "let t=token(1);@t=token(read);let u=t;");
        at(5, "let u:int;let t=1;@t=u;");
        at(6, "let mut x=1;let mut y=2;let q=&mut x;let s=&mut y;@x=y;*q=1;*s=1;");
        at(6, "let mut x=1;let mut y=2;let s=&mut y;x=@y;*s=x;");
        // Of a return the word, then its exp.
        Check.fault(6, "fn h<'a>(a:&'a int,b:&int,c:int)->&'a int{let mut r=b;if read==0{r=&c;}@return r;}" + main(""));
        Check.fault(6, "fn h<'a>(a:&'a int,b:&int,c:int)->&'a int{let mut r=b;if read==0{r=&c;print *r;}else{}return @b;}"
            + main(""));
        Check.fault(6, "fn i(a:&int,b:int)->&int{return a;}fn h(a:&int)->&int{let x=1;@return i(&x,x);}" + main(""));
        Check.fault(6, "fn i(a:&mut int,b:int)->&int{return i(a,b);}fn h()->&int{let mut x=1;@return i(&mut x,x);}" + main(""));
        Check.fault(6, "fn i(a:&mut int,b:int)->int{return b;}fn h()->int{let mut x=1;return i(&mut x,@x);}" + main(""));
    }

    /** A bracket is a place's or an exp's first token, but not that of a fault of what stands in it. */
    private static void brackets() {
        at(3, "((@y));");
        at(4, "((@-true));");
        at(4, "print @((token(1)));");
        at(4, "if @(1){}");
        at(4, "let x:int=@((true));");
        at(4, "let x=1;x=@(true);");
        at(4, "f(@(true),y,z);");
        at(4, "let e=1;match @(e){}");
        at(4, "let e=1;match &@(e){}");
        at(4, "return @(1);");
        at(4, "&mut @(b);");
        at(4, "&mut @((*b));");
        at(4, "@((*b))=new P{a:1,t:token(1)};");
        at(4, "let x=@((*r));");
        at(4, "(b).@a;");
        at(4, "((@*1));");
        at(4, "(1@+(true));");
        at(4, "((@f()));");
        at(5, "let t=token(1);t;@((t));");
        at(5, "let x=1;@(x)=2;");
        at(5, "let x:P;print @((x).a);");
        at(6, "let mut x=1;let q=&x;@((x))=2;print *q;");
        at(6, "let mut x=1;let q=&mut x;print @(x)+1;print *q;");
        at(6, "let mut x=1;let q=&mut x;&@(x);print *q;");
    }
}
