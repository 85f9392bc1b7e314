/** Promise 4 with the faults 3 NAME and 4 TYPE. */
public final class TypeTest {
    private static final String P = "struct P{a:int,t:token}";
    private static final String E = "enum E{A,B(int),C(token,P)}";
    private static final String N = "fn n(){}";

    public static void main(String[] args) {
        itemNames();
        declaredTypes();
        lives();
        sizes();
        mainFunction();
        order();
        signs();
        stars();
        borrows();
        calls();
        builds();
        variants();
        members();
        names();
        lets();
        oneBehindTheOther();
        assignments();
        conditions();
        matches();
        returns();
        prints();
        mutability();
        movable();
        Check.end();
    }

    private static String main(String body) {
        return "fn main(){" + body + "}";
    }

    private static void name(String text) {
        Check.fault(3, text);
    }

    private static void type(String text) {
        Check.fault(4, text);
    }

    private static void itemNames() {
        name("struct A{a:int}struct @A{a:int}fn main(){}");
        name("struct A{a:int}enum @A{B}fn main(){}");
        name("enum A{B}fn @A(){}fn main(){}");
        name("fn main(){}fn @main(){}");
        name("fn main(x:B){}struct @main{a:C}");
        Check.fine("struct A{A:int}enum B{A,B}fn a(){let A=1;let main=A;let a=main;}fn main(){}");
        Check.fine("struct A{a:B}struct B{a:int}fn f(a:C)->A{return f(a);}enum C{A}fn main(){}");
    }

    private static void declaredTypes() {
        name("struct A{a:@B}fn main(){}");
        name("struct A{a:@main}fn main(){}");
        name("struct A{a:box @B}fn main(){}");
        name("enum A{B(int,@C)}fn main(){}");
        name("fn f(a:int,b:@C){}fn main(){}");
        name("fn f()->@C{}fn main(){}");
        name("fn f(a:&mut @C){}fn main(){}");
        type("struct A{a:@&int}fn main(){}");
        type("struct A{a:box @&int}fn main(){}");
        type("struct A{a:@&B}fn main(){}");
        type("struct A{a:@&'a int}fn main(){}");
        type("enum A{B(@&mut int)}fn main(){}");
        type("fn f(a:box @&int){}fn main(){}");
        type("fn f(a:& @&int){}fn main(){}");
        type("fn f(a:&mut box @&B){}fn main(){}");
        type("fn f()->box @&int{}fn main(){}");
        type("fn f<'a>(a:box @&'b int){}fn main(){}");
        name("struct A{a:int,@a:B}fn main(){}");
        name("struct A{a:@B,a:int}fn main(){}");
        name("enum A{B,C,@B(D)}fn main(){}");
        name("fn f(a:int,@a:B){}fn main(){}");
        name("fn f<'a,'b,@'a>(a:B){}fn main(){}");
        Check.fine("fn f<'a>(a:int){}enum A{a,b}struct B{a:int,b:int}fn main(){}");
        String eight = Check.times(8, "box ");
        Check.fine("fn f(a:" + eight + eight + "int){}fn main(){let a=" + eight + "1;f(" + eight + "a);}");
        type("fn f(a:" + eight + eight + "int){}fn main(){let a=" + eight + "true;f(@" + eight + "a);}");
    }

    private static void lives() {
        name("fn f(a:&@'a int){}fn main(){}");
        name("fn f<'a>(a:&@'b int){}fn main(){}");
        name("fn f<'a>(a:&'a int)->&@'b int{return a;}fn main(){}");
        name("fn f<'a>(a:&'b @B){}fn main(){}");
        type("fn f<'a>(a:&'b @&int){}fn main(){}");
        type("fn f<'a>(a:&'a int){let b:&@'a int;}fn main(){}");
        type("fn f<'a>(a:&'a int){let b:&@'c int;}fn main(){}");
        name("fn f<'a>(a:&'a int){let b:&'a @C;}fn main(){}");
        type("fn f<'a>(a:&'a int){let b:box @&'a int;}fn main(){}");
        Check.fine("fn f<'a,'b>(a:&'a int,b:&'b mut int)->&'b mut int{return b;}fn main(){}");
        name("fn f<'a,'b,'c,'d,'e,'f,'g,'h>(a:&@'i int){}fn main(){}");
        Check.fine("fn f<'a,'b,'c,'d,'e,'f,'g,'h>(a:&'h int){}fn main(){}");
        // The lives of one function are none of another's, nor of one in another run.
        name("fn f<'a>(a:&'a int){}fn g(a:&@'a int){}fn main(){}");
        OwnedPlaces x = Check.fed(500, "fn f<'a,'b>(){}fn main(){}");
        Check.due("lives", x.run(26, 9), 0);
        Check.feed(x, "fn f<'a>(a:&'b int){}fn main(){}");
        Check.due("lives of another run", x.run(32, 9), 3);
        Check.due("place", x.place(), 12);
    }

    private static void sizes() {
        type("struct @A{a:A}fn main(){}");
        type("struct @A{b:B}struct B{a:A}fn main(){}");
        type("struct @A{b:B}struct B{b:B}fn main(){}");
        type("struct A{b:box B}struct @B{b:B}fn main(){}");
        type("enum @A{B,C(A)}fn main(){}");
        type("enum @A{B,C(D)}struct D{a:int,e:A}fn main(){}");
        Check.fine("enum A{B,C(box A)}struct D{a:A,b:box D}fn main(){}");
        String four = "struct F{a:int,b:bool,c:token,d:box F}";
        Check.fine(four + "struct G{a:F,b:F,c:F,d:F}fn main(){}");
        type(four + "struct @G{a:F,b:F,c:F,d:F,e:int}fn main(){}");
        type(four + "struct @G{a:F,b:F,c:F,d:F,e:box G}struct H{g:G}fn main(){}");
        Check.fine(four + "enum G{A(F,F,F,int,int,int),B(F,F),C}fn main(){}");
        type(four + "enum @G{C,A(F,F,F,F),B}fn main(){}");
        type("struct @A{b:B,c:B}struct B{c:C,d:C}struct C{d:D,e:D}struct D{e:E,f:E}struct E{a:int,b:int}fn main(){}");
        Check.fine("struct B{c:C,d:C}struct C{d:D,e:D}struct D{e:E,f:E}struct E{a:int,b:int}fn main(){}");
        type("enum @A{B(C,C)}enum C{D(int,int,int,int,int,int,int)}fn main(){}");
        Check.fine("enum A{B(C,C)}enum C{D(int,int,int,int,int,int),F(int)}fn main(){}");
        type("struct @A{b:B}struct B{a:int,c:C,d:C,e:C,f:C}struct C{a:int,b:int,c:int,d:int}fn main(){}");
    }

    private static void mainFunction() {
        name("@");
        name("fn f(){} @");
        name("struct main{a:int}// no main @");
        type("fn @main(a:int){}");
        type("fn @main()->int{return 1;}");
        type("fn @main<'a>(){}");
        type("fn @main<'a>(){x;}");
        type("struct @A{a:A}fn main(a:int){}");
        type("fn f(){x;}fn @main(a:int){}");
    }

    private static void order() {
        name("fn f(){x=1;y;}fn main(){}".replace("x=1", "@x=1"));
        name("fn f(){1;}fn g(){@z;}fn main(){y;}");
        type("fn f(){let x=1;x=2;}fn main(){@-true;}");
        type("fn f(a:int){print @f(1);}fn main(){b;}");
    }

    private static void signs() {
        String[] ofInts = {"+", "-", "*", "/", "%", "<", "<=", ">", ">="};
        for (String sign : ofInts) {
            Check.fine(main("print read " + sign + " (read+1);"));
            type(main("print 1 @" + sign + " true;"));
            type(main("print true @" + sign + " 1;"));
            type(main("print true @" + sign + " false;"));
            type(main("let x=1;print &x @" + sign + " 1;"));
            type(N + main("print n() @" + sign + " 1;"));
            name(main("print true " + sign + " @x;"));
            type(main("print (true @" + sign + " 1)+x;"));
            type(main("let t=token(1);let u=token(1);print (t) @" + sign + " (u);"));
        }
        String[] ofBoth = {"==", "!="};
        for (String sign : ofBoth) {
            Check.fine(main("print 1 " + sign + " 2;print true " + sign + " false;"));
            type(main("print 1 @" + sign + " true;"));
            type(main("print token(1) @" + sign + " token(2);"));
            type(main("let x=1;print &x @" + sign + " &x;"));
            type(N + main("n() @" + sign + " n();"));
            type(P + "fn f(p:P,q:P){p @" + sign + " q;}fn main(){}");
        }
        String[] ofBools = {"&&", "||"};
        for (String sign : ofBools) {
            Check.fine(main("print true " + sign + " false;"));
            type(main("print 1 @" + sign + " true;"));
            type(main("print true @" + sign + " 1;"));
            name(main("print 1 " + sign + " @x;"));
        }
        type(main("print @!1;"));
        type(main("print (@!(1));"));
        type(main("print @-true;"));
        type(main("print - @-true;"));
        type(N + main("print @-n();"));
        type(main("print 1<2@<3;"));
        type(N + main("@box n();"));
        type(main("let x=1;@box &x;"));
        type(main("let x=1;let y=&x;box @box y;"));
        type(main("@token(true);"));
        type(main("print (@token(token(1)));"));
        name(main("token(@x);"));
        type(N + main("@token(n());"));
        Check.fine(main("let x:int=read;let y:box box bool=box box !true;let t:token=token(-x);"));
    }

    private static void stars() {
        type(main("let x=1;print @*x;"));
        type(main("print @*1;"));
        type(main("print @*box 1;"));
        type(main("let x=1;print @*&x;"));
        type("fn f(a:&int)->&int{return a;}" + main("let x=1;print @*f(&x);"));
        type(main("let x=box 1;print @**x;"));
        type(main("let x=box 1;print @*(*x);"));
        name(main("print *@y;"));
        Check.fine(main("let x=box box box box 1;print ****x;"));
        type(main("let x=box box box box box 1;print @*****x;"));
        type("struct S{a:T}struct T{a:U}struct U{a:V}struct V{a:W}struct W{a:int}fn f(s:S){print s.a.a.a.a.@a;}"
            + main(""));
        Check.fine("struct S{a:T}struct T{a:U}struct U{a:V}struct V{a:int}fn f(s:S){print s.a.a.a.a;}" + main(""));
        name("struct S{a:T}struct T{a:U}struct U{a:V}struct V{a:W}struct W{a:int}fn f(s:S){print s.a.a.a.a.@b;}"
            + main(""));
        type("struct S{a:T}struct T{a:U}struct U{a:V}struct V{a:int}fn f(s:S){print s.a.a.a.a.@b;}" + main(""));
        type("struct S{a:box T}struct T{a:box int}fn f(s:&S){print @*(*(*s).a).a;}" + main(""));
        type("struct S{a:box T}struct T{a:int}fn f(s:box &S){}" .replace("box &S", "&box S")
            + "fn g(s:&box S){print (*(**s).a).@a;}" + main(""));
        Check.fine("struct S{a:box T}struct T{a:int}fn g(s:&S){print (*(*s).a).a;}" + main(""));
    }

    private static void borrows() {
        type(main("let x=1;let y=&x;@&y;"));
        type(main("@&1;"));
        type(main("@&(1+2);"));
        type(main("@& box 1;"));
        type(N + main("@&n();"));
        type(main("let x=1;@& &x;"));
        name(main("&@x;"));
        type(main("&@*1;"));
        type(main("let mut x=1;let y=&mut x;@&mut y;"));
        Check.fine(main("let mut x=1;&x;&mut x;&(x);let y=&mut x;&*y;&mut *y;"));
        Check.fine(P + "fn f(p:&mut P){&(*p).a;&mut (*p).t;&*p;}" + main(""));
        type(main("let x=1;&mut @x;"));
        type(main("let x=1;&mut @(x);"));
        type(main("let mut x=1;let y=&x;&mut @*y;"));
        type(main("let mut x=1;let y=&mut x;@&mut &y;".replace("@&mut &y", "&mut @&y")));
    }

    private static void calls() {
        String f = "fn f(a:int,b:&int,c:P)->bool{return true;}" + P;
        name(main("@f();"));
        name(P + main("@P(1);"));
        name(main("let f=1;@f(1);"));
        type(f + main("@f();"));
        type(f + main("@f(1,x);"));
        type(f + main("@f(1,2,3,y);"));
        type(f + main("f(@true,2,3);"));
        type(f + main("f(@(true),2,3);"));
        type(f + main("f(@(1)==1,2,3);"));
        type(f + main("f(1,@2,3);"));
        type(f + main("let mut x=1;f(1,@&mut x,3);"));
        type(f + main("let x=1;f(1,&x,@3);"));
        name(f + main("f(@x,true,3);"));
        type(f + main("f(@true,x,3);"));
        type(f + N + main("f(@n(),x,3);"));
        Check.fine(f + main("let f=1;f(f,&f,new P{a:1,t:token(2)});"));
        type("fn g(a:int){}" + main("@g();"));
        type("fn g(){}" + main("(@g(1));"));
    }

    private static void builds() {
        name(main("new @P{a:1};"));
        name(E + P + main("new @E{a:1};"));
        name(N + main("new @n{a:1};"));
        name(P + main("new P{a:1,@b:x};"));
        name(P + main("new P{a:1,@a:x};"));
        name(P + main("new P{a:@x,a:1};"));
        type(P + main("(@new P{a:1});"));
        type(P + main("@new P{t:token(1)};"));
        type(P + main("new P{a:@true,b:1};"));
        type(P + main("new P{t:@(1),a:true};"));
        type(P + N + main("new P{t:@n(),a:true};"));
        Check.fine(P + main("new P{t:token(1),a:1};new P{a:1,t:token(2)};"));
    }

    private static void variants() {
        name(main("@E::A;"));
        name(P + main("@P::a;"));
        name(E + P + main("E::@D;"));
        name(E + P + main("E::@D(x);"));
        type(E + P + main("(@E::A(x));"));
        type(E + P + main("@E::B;"));
        type(E + P + main("@E::B(1,x);"));
        type(E + P + main("E::B(@true);"));
        type(E + P + main("E::C(@1,x);"));
        type(E + P + main("E::C(token(1),@(1));"));
        name(E + P + main("E::C(@x,1);"));
        Check.fine(E + P + main("E::A;E::B(1);E::C(token(1),new P{a:1,t:token(2)});"));
    }

    private static void members() {
        type(main("let x=1;print x.@a;"));
        type(main("print 1.@a;"));
        type(P + main("print (new P{a:1,t:token(1)}).@a;"));
        type(P + "fn f()->P{return f();}" + main("print f().@a;"));
        name(P + "fn f(p:P){print p.@b;}" + main(""));
        type(P + "fn f(p:&P){print p.@a;}" + main(""));
        type(P + "fn f(p:box P){print p.@a;}" + main(""));
        type(P + "fn f(p:P){print p.a.@a;}" + main(""));
        name(P + "fn f(p:P){print @q.a;}" + main(""));
        Check.fine(P + "fn f(p:P,q:&P,r:box P){print p.a;print (p).a;print ((*q).a);print (*r).a;}" + main(""));
        type("enum F{A}" + main("let x=F::A;x.@A;"));
    }

    private static void names() {
        name(main("print @x;"));
        name(main("{let x=1;}print @x;"));
        name(main("print @x;let x=1;"));
        name(main("let x=@x;"));
        name("fn f(a:int){}" + main("print @a;"));
        name(N + main("print @n;"));
        name("enum F{A(int)}" + main("match F::A(1){A(y)=>{print y;}}print @y;"));
        Check.writes(main("let x=1;{let x=2;print x;{let x=x+5;print x;}}print x;let x=true;print x;"),
            "2\n7\n1\ntrue\n");
        Check.writes("enum F{A(int,int)}" + main("match F::A(1,2){A(y,y)=>{print y;}}"), "2\n");
        name(main("if true{let x=1;}else{print @x;}"));
        name(main("while true{let x=1;}print @x;"));
    }

    private static void lets() {
        type(main("let x:int=@true;"));
        type(main("let x:int=@(true);"));
        type(N + main("let x=@n();"));
        type(N + main("let x:int=@n();"));
        name(main("let x:@P=y;"));
        type(main("let x:box @&int=y;"));
        name(main("let x:int=@y;"));
        type(main("let mut z=1;let x:&int=@&mut z;"));
        Check.fine(main("let z=1;let x:&int=&z;let y:&int;let w:box bool;"));
        type(main("let x;print @x;"));
        type(main("let x;print (@x);"));
        type(main("let x;&@x;"));
        type(main("let x;x=@x;"));
        type(main("let x;@x.a=1;"));
        type(main("let x;*@x=1;"));
        type(main("let x;*(@x)=1;"));
        type(main("let x;match &@x{}"));
        type(main("let x;match @x{}"));
        type(main("let x;{print @x;}x=1;"));
        type(main("let x;x=1;x=@true;"));
        type(N + main("let x;x=@n();"));
        type(N + main("let x;(x)=@n();"));
        type(main("let x;if true{x=1;}else{x=@false;}"));
        Check.writes(main("let x;let y;let z;((x))=3;y=x;print y;"), "3\n");
        Check.writes(main("let x;if false{x=1;}else{x=2;}print x;"), "2\n");
        Check.fine(main("let mut x;let y=1;x=&y;print *x;"));
        name(P + main("let x;x=new P{a:@y,t:token(1)};"));
    }

    /** What one text told of its tokens and types does not tell in the next one. */
    private static void oneBehindTheOther() {
        Check.textBehind(main("let mut x=1;x=2;x=3;"), main("let mut x=1;x+x;x=3;"));
        Check.textBehind(main("let mut x=1;x;x=3;"), main("let mut x=1;x=2;x+x;"));
        OwnedPlaces x = Check.fed(500, main("let mut x=1;x=0;"));
        Check.due("an assignment", x.run(27, 9), 0);
        Check.feed(x, main("let mut x=1;x/0;"));
        Check.due("an exp where an assignment was", x.run(27, 9), 7);
        Check.textBehind(main("let mut x=1;&mut x;&x;box x;"), main("let b=box 1;let mut x=1;let r=&mut x;*r=2;print *b;"));
        Check.textBehind(main("let b=box box 1;&b;"), main("let mut x=1;let r=&mut x;*r=2;let b=box true;if *b{}"));
        Check.textBehind(P + main("box new P{a:1,t:token(1)};"), "enum P{A(int)}" + main("let b=box P::A(1);match *b{A(x)=>{}}"));
        Check.textBehind("fn f(a:int,b:int){}" + main("f(1,2);"), "fn f(a:bool){}" + main("f(true);"));
        Check.textBehind("fn f(a:int)->int{return 1;}" + main("f(1);"), "fn f(a:int){}" + main("f(1);"));
        Check.textBehind("struct a{b:int}enum c{d}fn e(){}" + main(""), "fn a(){}struct e{b:int}" + main("let c=1;a();"));
    }

    private static void assignments() {
        type(main("let mut x=1;x=@true;"));
        type(main("let mut x=1;x=@(true);"));
        name(main("@y=1;"));
        name(main("y=@z;"));
        type(N + main("let mut x=1;x=@n();"));
        name(N + main("@x=n();"));
        type(main("let x=1;let b=box x;*b=@true;"));
        type(main("let x=1;let b=box x;@*b=1;"));
        type(main("let x=1;@*x=1;"));
        type(P + "fn f(p:P){@p.a=1;}" + main(""));
        type(P + "fn f(p:P){@(p).a=1;}" + main(""));
        type(P + "fn f(p:P){p.a=@true;}" + main(""));
        name(P + "fn f(p:P){p.@b=true;}" + main(""));
        type(P + "fn f(p:&P){@(*p).a=1;}" + main(""));
        type(P + "fn f(p:box P){@(*p).a=1;}" + main(""));
        Check.fine(P + "fn f(p:&mut P){(*p).a=1;(*p).t=token(2);*p=new P{a:1,t:token(3)};}" + main(""));
        type(main("let mut x=1;let mut r=&mut x;r=@&x;"));
        Check.fine(main("let mut b=box box 1;**b=2;*b=box 3;b=box box 4;"));
        type(main("let b=box box 1;@**b=2;"));
        Check.fine("fn f(b:&mut box int){**b=2;*b=box 3;}" + main(""));
        type("fn f(b:&box int){@**b=2;}" + main(""));
    }

    private static void conditions() {
        type(main("if @1{}"));
        type(main("if @(1){}"));
        type(main("if true{}else if @(1)+1{}"));
        type(main("while @1{}"));
        type(N + main("while @n(){}"));
        name(main("if @x{y;}"));
        name(main("if true{@y;}else{z;}"));
        type(main("if @token(1){}"));
    }

    private static void matches() {
        String e = E + P + "fn f(e:E,r:&E,m:&mut E){";
        type(main("match @1{}"));
        type(main("let x=1;match &@x{}"));
        type(main("let mut x=1;match &mut @(x){}"));
        name(main("match @x{A=>{y;}}"));
        type(e + "match @r{}}" + main(""));
        type(e + "match &@r{}}" + main(""));
        type(e + "match @*r{}}" + main(""));
        type(e + "match @(*r){}}" + main(""));
        name(e + "match e{@D=>{}}}" + main(""));
        name(e + "match e{A=>{}@A(x,y)=>{}}}" + main(""));
        name(e + "match e{A=>{@x;}A=>{}}}" + main(""));
        type(e + "match e{@A(x)=>{}B(x)=>{}C(x,y)=>{}}}" + main(""));
        type(e + "match e{A=>{}@B=>{}C(x,y)=>{}}}" + main(""));
        type(e + "match e{A=>{}B(x)=>{}@C(x)=>{z;}}}" + main(""));
        type(e + "@match e{A=>{}C(x,y)=>{}}}" + main(""));
        type(e + "@match e{}}" + main(""));
        type(e + "{@match & *r{A=>{}B(x)=>{}}}}" + main(""));
        name(e + "match e{A=>{@z;}B(x)=>{}}}" + main(""));
        Check.fine(e + "match e{C(x,y)=>{print y.a;}A=>{}B(x)=>{print x;}}}" + main(""));
        Check.fine(e + "match & *r{C(x,y)=>{print (*y).a;}A=>{}B(x)=>{print *x;}}}" + main(""));
        Check.fine(e + "match &mut *m{C(x,y)=>{(*y).a=1;*x=token(2);}A=>{}B(x)=>{*x=1;}}}" + main(""));
        Check.fine(e + "match & *m{C(x,y)=>{print (*y).a;}A=>{}B(x)=>{let y:&int=x;}}}" + main(""));
        type(e + "match & *m{C(x,y)=>{@(*y).a=1;}A=>{}B(x)=>{}}}" + main(""));
        type(e + "match & *m{A=>{}B(x)=>{let y:int=@x;}C(x,y)=>{}}}" + main(""));
        type(e + "match &mut @*r{C(x,y)=>{}A=>{}B(x)=>{}}}" + main(""));
        type(e + "match &mut @e{C(x,y)=>{}A=>{}B(x)=>{}}}" + main(""));
        type(e + "match &mut @(e){C(x,y)=>{}A=>{}B(x)=>{}}}" + main(""));
        type(e + "match &mut *@r.z{}}".replace("*@r.z", "*r.@z") + main(""));
    }

    private static void returns() {
        type("fn f()->int{return @true;}" + main(""));
        type("fn f()->int{return @(true);}" + main(""));
        type("fn f()->int{@return;}" + main(""));
        type("fn f()->int{return @n();}" + N + main(""));
        type("fn f()->int{@}" + main(""));
        type("fn f()->int{if true{return 1;}@}" + main(""));
        type("fn f()->int{if true{return 1;}else if false{return 2;}@}" + main(""));
        type("fn f()->int{if true{return 1;}else{}@}" + main(""));
        type("fn f()->int{if true{}else{return 1;}@}" + main(""));
        type("fn f()->int{if true{return 1;}else if false{}else{return 1;}@}" + main(""));
        type("fn f()->int{while true{return 1;}@}" + main(""));
        String[] others = {"1;", "let x=1;", "let x;", "print 1;", "{}", "{1;}", "let mut x=1;x=2;", "f();", "if true{}",
            "if true{}else{}", "while true{}", "match E::A{A=>{}B(x)=>{}C(x,y)=>{}}", "{{let x=1;}}",
            "if true{return 1;}else{print 1;}", "match E::A{A=>{return 1;}B(x)=>{return 1;}C(x,y)=>{1;}}"};
        for (String statement : others) {
            type("fn f()->int{" + statement + "@}" + E + P + main(""));
            type("fn f()->int{if read==0{return 1;}else{" + statement + "}@}" + E + P + main(""));
            Check.fine("fn f()->int{" + statement + "return 1;}" + E + P + main(""));
            Check.fine("fn f()->int{return 1;" + statement + "}" + E + P + main(""));
        }
        type("fn f(e:E)->int{match e{A=>{return 1;}B(x)=>{}C(x,y)=>{return 2;}}@}" + E + P + main(""));
        name("fn f()->int{@x;}" + main(""));
        Check.fine("fn f()->int{if true{return 1;}else if false{return 2;}else{return 3;}}" + main(""));
        Check.fine("fn f()->int{{return 1;}}" + main(""));
        Check.fine("fn f()->int{return 1;let x=2;}" + main(""));
        Check.fine("fn f()->int{if true{return 1;print 2;}else{{return 3;}while true{}}print 5;}" + main(""));
        Check.fine("fn f(e:E)->int{match e{A=>{return 1;}B(x)=>{return x;}C(x,y)=>{return 2;}}}" + E + P + main(""));
        type(main("return @1;"));
        Check.fine(main("return;"));
        name("fn f()->int{return 1;@x;}" + main(""));
        type("fn f(a:&mut int)->&int{return @a;}" + main(""));
        type("fn f()->int{return 1;}fn g()->int{@}" + main(""));
    }

    private static void prints() {
        type(main("print @token(1);"));
        type(main("print @(box 1);"));
        type(main("let x=1;print @&x;"));
        type(N + main("print @n();"));
        Check.fine(main("print 1;print true;"));
        Check.fine(N + main("n();1;true;token(1);box 1;let x=1;&x;"));
    }

    private static void mutability() {
        Check.fine(P + main("let mut p=new P{a:1,t:token(1)};p.a=2;&mut p.a;&mut p;let q=&mut p;&mut (*q).a;"));
        type(P + main("let p=new P{a:1,t:token(1)};&mut @p.a;"));
        type(P + main("let p=box new P{a:1,t:token(1)};&mut @(*p).a;"));
        Check.fine(P + main("let mut p=box new P{a:1,t:token(1)};&mut (*p).a;&mut *p;"));
        type("fn f(x:int){&mut @x;}" + main(""));
        type("enum F{A(int)}" + main("match F::A(1){A(x)=>{&mut @x;}}"));
        Check.fine("enum F{A(int)}" + main("let mut f=F::A(1);match &mut f{A(x)=>{&mut *x;}}"));
        type("enum F{A(int)}" + main("let mut f=F::A(1);match &f{A(x)=>{&mut @*x;}}"));
    }

    private static void movable() {
        type(P + "fn f(p:&P){let q=@*p;}" + main(""));
        type(P + "fn f(p:&mut P){let q=@(*p);}" + main(""));
        type(P + "fn f(p:&P){print @(*p).t;}" + main(""));
        type(P + "fn f(p:&P){@(*p).t+1;}" + main(""));
        type(P + "fn f(p:box P){let q=@(*p).t;}" + main(""));
        type(P + "fn f(p:box box P){let q=@**p;}" + main(""));
        type(P + "fn f(p:&box P){let q=@**p;}" + main(""));
        type(P + "fn f(p:&P){box @*p;}" + main(""));
        type(P + "fn f(p:&P){@*p;}" + main(""));
        type(P + "fn f(p:&P){return @*p;}" + main(""));
        type(P + "fn g(x:int){}fn f(p:&P){g(@*p);}" + main(""));
        type("struct B{b:box B,c:int}fn f(p:B){let x=@*(*p.b).b;}" + main(""));
        Check.fine("struct B{b:box B,c:int}fn f(p:B){let x=*p.b;print p.c;}" + main(""));
        Check.fine("struct B{b:box B,c:int}fn f(p:B){print (*p.b).c;}" + main(""));
        Check.fine(P + "fn f(p:&P)->int{return (*p).a;}fn g(p:box P)->P{return *p;}" + main(""));
        Check.fine(P + "fn f(p:P)->token{return p.t;}" + main(""));
    }
}
