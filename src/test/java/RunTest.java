/** Promise 4, running: fuel, order, panics, room, depth, drops, what is written and read. */
public final class RunTest {
    private static final String P = "struct P{a:int,t:token}";
    private static final String T = "fn t(n:int)->token{return token(n);}fn b(n:int)->bool{print n;return n>0;}"
        + "fn n(n:int)->int{print n;return n;}";

    public static void main(String[] args) {
        fuel();
        panics();
        arithmetic();
        order();
        room();
        blocks();
        deep();
        drops();
        dropParts();
        dropScopes();
        assignments();
        references();
        enums();
        repeated();
        inputs();
        faultsStop();
        large();
        Check.end();
    }

    private static String main(String body) {
        return "fn main(){" + body + "}";
    }

    private static void costs(int cost, String text) {
        OwnedPlaces x = Check.runs(text, 1000, 0, "");
        Check.due("fuel of " + text, 1000 - x.count(0), cost);
        OwnedPlaces y = Check.runs(text, cost, 0, "");
        Check.due("fuel just enough for " + text, y.count(0), 0);
        OwnedPlaces z = Check.runs(text, cost - 1, 8, "");
        Check.due("fuel not enough for " + text, z.count(0), 0);
    }

    private static void fuel() {
        costs(1, main(""));
        costs(2, main("let x;"));
        costs(2, main("return;"));
        costs(2, main("return;return;"));
        costs(2, main("{}"));
        costs(4, main("{{}1;}"));
        costs(2, main("if true{}"));
        costs(3, main("if true{1;}else{2;3;}"));
        costs(4, main("if false{1;}else{2;3;}"));
        costs(2, main("if false{}else if false{}else{}"));
        costs(3, main("if false{}else if true{1;}else{}"));
        costs(3, main("while false{}"));
        costs(3 + 3 * 2 + 1, main("let mut i=0;while i<3{i=i+1;}"));
        costs(4, "fn f(){}" + main("f();f;".replace("f;", "")+"1;"));
        costs(3, "fn f(){}" + main("f();"));
        costs(5, "fn f()->int{return 1;}" + main("f()+1;{}".replace("{}", "")) .replace("f()+1;", "f()+1;1;"));
        costs(7, "fn f(a:int)->int{return a;}" + main("let x=f(f(1));").replace("let x", "1;let x"));
        costs(2, "enum E{A,B}" + main("match E::A{A=>{}B=>{1;}}"));
        costs(3, "enum E{A,B}" + main("match E::B{A=>{}B=>{1;}}"));
        costs(2, main("true||1/0==1;"));
        Check.runs(main(""), 0, 8, "");
        Check.runs(main("print 1;print 2;"), 2, 8, "1\n");
        Check.runs(T + main("let x=n(1)+n(2);"), 6, 8, "1\n");
        Check.runs(main("while true{}"), 20000, 8, "");
        // The call's fuel is asked behind its arguments.
        Check.runs(main("f(1/0);") + "fn f(a:int){}", 2, 7, "");
        Check.runs(main("f(1);") + "fn f(a:int){}", 2, 8, "");
    }

    private static void panics() {
        String most = "9223372036854775807";
        String least = "(-9223372036854775807-1)";
        String[] bad = {most + "+1", "1+" + most, least + "+-1", "-2-" + most, most + "- -1", "0-" + least,
            "-" + least, most + "*2", "2*" + most, least + "*-1", "-1*" + least, least + "*2", "4294967296*2147483648",
            "1/0", "0/0", "1%0", "0%0", least + "/-1", least + "%-1", "3037000500*3037000500", "- -" + least};
        for (String exp : bad) {
            OwnedPlaces x = Check.runs(main("print 7;print " + exp + ";print 8;"), 50, 7, "7\n");
            Check.due("fuel behind " + exp, x.count(0), 47);
        }
        String[][] good = {{most + "+0", most}, {most + "+-1", "9223372036854775806"}, {least, "-9223372036854775808"},
            {least + "+0", "-9223372036854775808"}, {"-1-" + most, "-9223372036854775808"}, {"-" + most, "-" + most},
            {least + "*1", "-9223372036854775808"}, {"1*" + least, "-9223372036854775808"},
            {"-4294967296*2147483648", "-9223372036854775808"}, {least + "/1", "-9223372036854775808"},
            {least + "*0", "0"}, {"0*" + least, "0"}, {most + "/-1", "-" + most}, {most + "%-1", "0"},
            {least + "/2", "-4611686018427387904"}, {least + "-" + least, "0"},
            {"3037000499*3037000499", "9223372030926249001"}};
        for (String[] pair : good) {
            Check.writes(main("print " + pair[0] + ";"), pair[1] + "\n");
        }
    }

    private static void arithmetic() {
        Check.writes(main("print 7/2;print -7/2;print 7/-2;print -7/-2;print 7%2;print -7%2;print 7%-2;print -7%-2;"),
            "3\n-3\n-3\n3\n1\n-1\n1\n-1\n");
        Check.writes(main("print 1<2;print 2<1;print 1<1;print 1<=1;print 2<=1;print 2>1;print 1>1;print 1>=1;"),
            "true\nfalse\nfalse\ntrue\nfalse\ntrue\nfalse\ntrue\n");
        Check.writes(main("print 1==1;print 1==2;print 1!=2;print 1!=1;print true==true;print true!=false;print !true;"),
            "true\nfalse\ntrue\nfalse\ntrue\ntrue\nfalse\n");
        Check.writes(main("print -0;print - -5;print 0-5;print 1000000007*1000000007;"), "0\n5\n-5\n1000000014000000049\n");
    }

    private static void order() {
        Check.writes(T + main("print n(1)+n(2)*n(3);"), "1\n2\n3\n7\n");
        Check.writes(T + main("print b(1)||b(2);print b(0)||b(3);print b(0)&&b(1);print b(4)&&b(0);"),
            "1\ntrue\n0\n3\ntrue\n0\nfalse\n4\n0\nfalse\n");
        Check.writes(T + main("print b(0)&&b(1)||b(2)&&b(3);print b(1)&&b(0)||b(0)||b(5);"),
            "0\n2\n3\ntrue\n1\n0\n0\n5\ntrue\n");
        Check.writes(T + "struct S{x:int,y:int,z:int}" + main("let s=new S{z:n(1),x:n(2),y:n(3)};print s.x;print s.y;"
            + "print s.z;"), "1\n2\n3\n2\n3\n1\n");
        Check.writes(T + "fn f(a:int,b:int,c:int){print a*100+b*10+c;}" + main("f(n(1),n(2),n(3));"), "1\n2\n3\n123\n");
        Check.writes("fn up(r:&mut int)->int{*r=*r+1;return *r;}" + main("let mut x=1;print x+up(&mut x)*x;"
            + "print up(&mut x)-x;x=x+up(&mut x);print x;"), "5\n0\n7\n");
        Check.writes(T + "enum E{A(int,token,int)}" + main("match E::A(n(1),t(9),n(2)){A(x,y,z)=>{print x*10+z;}}"),
            "1\n2\n12\nd9\n");
        // The exp of an assignment, then what was there is dropped.
        Check.writes(T + "fn m(n:int)->token{print n;return token(n);}" + main("let mut x=m(1);x=m(2);print 3;"),
            "1\n2\nd1\n3\nd2\n");
    }

    private static void room() {
        OwnedPlaces x = new OwnedPlaces(16);
        String four = "struct F{a:int,b:int,c:int,d:int}";
        String text = four + main("let a=box new F{a:1,b:2,c:3,d:4};let b=box new F{a:1,b:2,c:3,d:4};"
            + "let c=box new F{a:1,b:2,c:3,d:4};let d=box new F{a:1,b:2,c:3,d:4};print 1;box 5;print 2;");
        Check.feed(x, text);
        Check.due("run", x.run(text.length(), 99), 9);
        Check.due("place", x.place(), -1);
        Check.due("written", Check.fetchAll(x), "1\n");
        Check.due("fuel left", x.count(0), 92);
        Check.due("in use", x.count(1), 16);
        Check.due("most", x.count(2), 16);
        // All cells are free when the next run begins.
        text = four + main("{let a=box new F{a:1,b:2,c:3,d:4};}let b=box box 1;");
        Check.feed(x, text);
        Check.due("run again", x.run(text.length(), 99), 0);
        Check.due("in use again", x.count(1), 0);
        Check.due("most again", x.count(2), 4);
    }

    /** Free cells have to lie side by side; the lowest place is the first. */
    private static void blocks() {
        String s = "struct T{a:int,b:int,c:int}struct D{a:int,b:int}";
        String t = "new T{a:1,b:2,c:3}";
        String d = "new D{a:1,b:2}";
        String filled = "let a=box " + t + ";let b=box " + d + ";let c=box " + t + ";let d=box " + t + ";let e=box " + d
            + ";let f=box " + t + ";";
        heap16(s + main(filled + "print 1;box " + d + ";"), 9);
        heap16(s + main(filled + "let x=*b;let y=*e;box " + d + ";box " + d + ";"), 0);
        heap16(s + main(filled + "let x=*b;let y=*e;print 1;box " + t + ";"), 9);
        heap16(s + main(filled + "let x=*b;let z=*c;let v=box new D{a:1,b:1};let w=box " + t + ";"), 0);
        heap16(s + main(filled + "let x=*b;let z=*c;let v=box " + t + ";let w=box " + d + ";"), 0);
        heap16(s + main(filled + "let x=*a;let z=*e;let v=box " + d + ";let w=box " + t + ";"), 9);
        heap16(s + main(filled + "let x=*a;let z=*e;let v=box 1;let w=box " + d + ";let u=box " + d + ";"), 0);
        heap16(s + main(filled + "let x=*e;let z=*a;let v=box 1;let w=box " + t + ";"), 9);
        heap16(s + main(filled + "let x=*d;let z=*a;let v=box 1;let w=box " + t + ";let u=box " + d + ";"), 0);
    }

    private static void heap16(String text, int fault) {
        OwnedPlaces x = new OwnedPlaces(16);
        Check.feed(x, text);
        Check.due("fault of " + text, x.run(text.length(), 99), fault);
        Check.due("most of " + text, x.count(2), 16);
    }

    private static void deep() {
        String f = "fn f(n:int){if n>1{f(n-1);}else{print 5;}}";
        Check.writes(f + main("f(59);"), "5\n");
        Check.runs(f + main("f(60);"), 1000, 10, "");
        OwnedPlaces x = Check.runs("fn f(){f();}" + main("f();"), 121, 10, "");
        Check.due("the call's fuel is taken", x.count(0), 0);
        Check.runs("fn f(){f();}" + main("f();"), 120, 8, "");
        Check.runs(main("main();"), 500, 10, "");
        Check.writes("fn fib(n:int)->int{if n<2{return n;}return fib(n-1)+fib(n-2);}" + main("print fib(15);"), "610\n");
        String s = "struct S{" + "a:int,b:int,c:int,d:int,e:int,f:int,g:int,h:int,i:int,j:int,k:int,l:T}struct T{a:int,"
            + "b:int,c:int,d:int,e:int}";
        String made = "new S{a:n,b:2,c:3,d:4,e:5,f:6,g:7,h:8,i:9,j:10,k:11,l:new T{a:1,b:2,c:3,d:4,e:n}}";
        Check.writes(s + "fn g(n:int)->S{return " + made + ";}fn h(a:S,b:S,c:S,d:S,n:int)->int{if n==0{return a.a+d.l.e;}"
            + "return h(b,c,d,g(n),n-1)+h(g(1),g(1),g(1),g(1),0)+a.l.e-a.a;}" + main("print h(g(1),g(2),g(3),g(4),50);"),
            "105\n");
    }

    private static void drops() {
        Check.writes(main("token(5);"), "d5\n");
        Check.writes(main("let a=token(1);let b=token(2);let c=token(3);"), "d3\nd2\nd1\n");
        Check.writes(main("let a=token(-7);print 0;"), "0\nd-7\n");
        Check.writes(main("let a=token(-9223372036854775807-1);"), "d-9223372036854775808\n");
        Check.writes(main("box token(1);print 2;"), "d1\n2\n");
        Check.writes("struct S{a:token,b:box token,c:token}"
            + main("new S{c:token(1),b:box token(2),a:token(3)};"), "d3\nd2\nd1\n");
        Check.writes("enum E{A(token,box token,token),B}" + main("E::A(token(1),box token(2),token(3));E::B;"),
            "d1\nd2\nd3\n");
        Check.writes(main("let a=token(1);a;print 2;"), "d1\n2\n");
        Check.writes(main("let a=box token(1);*a;print 2;"), "d1\n2\n");
        Check.writes("fn f(a:token,b:token){let c=token(3);let d=token(4);}" + main("f(token(1),token(2));print 0;"),
            "d4\nd3\nd2\nd1\n0\n");
        Check.writes("fn f(a:token,b:token)->token{let c=token(3);return a;}" + main("f(token(1),token(2));print 0;"),
            "d3\nd2\nd1\n0\n");
        Check.writes("fn f(a:token)->token{let c=token(3);return c;}" + main("let x=f(token(1));print 0;"),
            "d1\n0\nd3\n");
        Check.writes(main("let a=token(1);let b=a;print 2;let c=token(3);"), "2\nd3\nd1\n");
        Check.writes(main("let a=token(1);let a=token(2);let a=token(3);"), "d3\nd2\nd1\n");
        Check.writes(main("let b=box box box token(4);"), "d4\n");
        Check.writes(main("let t=token(1);let r=&t;&t;"), "d1\n");
    }

    private static void dropParts() {
        String q = "struct Q{a:token,b:P,c:token}" + P + "fn g(t:token){}";
        String made = "let mut q=new Q{a:token(1),b:new P{a:0,t:token(2)},c:token(3)};";
        Check.writes(q + main(made), "d1\nd2\nd3\n");
        Check.writes(q + main(made + "g(q.b.t);print 0;"), "d2\n0\nd1\nd3\n");
        Check.writes(q + main(made + "g(q.a);print 0;"), "d1\n0\nd2\nd3\n");
        Check.writes(q + main(made + "let b=q.b;print 0;"), "0\nd2\nd1\nd3\n");
        Check.writes(q + main(made + "g(q.c);q.c=token(4);print 0;"), "d3\n0\nd1\nd2\nd4\n");
        Check.writes(q + main(made + "g(q.b.t);q.b=new P{a:0,t:token(4)};print 0;"), "d2\n0\nd1\nd4\nd3\n");
        Check.writes(q + main(made + "g(q.b.t);q=new Q{a:token(4),b:new P{a:0,t:token(5)},c:token(6)};print 0;"),
            "d2\nd1\nd3\n0\nd4\nd5\nd6\n");
        Check.writes(q + main("let mut q:Q;q.c=token(1);q.b.t=token(2);print 0;"), "0\nd2\nd1\n");
        Check.writes(q + main("let mut q:Q;q.c=token(1);q.c=token(2);print 0;"), "d1\n0\nd2\n");
        Check.writes(main("let t;if read==0{t=token(1);}print 0;"), "0\nd1\n");
        Check.writes(main("let t;if read==1{t=token(1);}print 0;"), "0\n");
        Check.writes(q + main("let t=token(1);if read==0{g(t);}print 0;"), "d1\n0\n");
        Check.writes(q + main("let t=token(1);if read==1{g(t);}print 0;"), "0\nd1\n");
        Check.writes("struct B{b:box token,c:box token}fn g(t:token){}"
            + main("let b=new B{b:box token(1),c:box token(2)};g(*b.b);print 0;"), "d1\n0\nd2\n");
    }

    private static void dropScopes() {
        Check.writes(main("{let a=token(1);{let b=token(2);}print 0;}print 3;"), "d2\n0\nd1\n3\n");
        Check.writes(main("let mut i=0;while i<2{let a=token(i);i=i+1;print 9;}"), "9\nd0\n9\nd1\n");
        Check.writes(main("if true{let a=token(1);}else{let b=token(2);}print 0;"), "d1\n0\n");
        Check.writes("fn f(p:token){let a=token(1);{let b=token(2);while true{let c=token(3);return;}}}"
            + main("f(token(0));print 9;"), "d3\nd2\nd1\nd0\n9\n");
        Check.writes("fn f()->int{let a=token(1);return n(5);}fn n(i:int)->int{print i;return i;}" + main("print f();"),
            "5\nd1\n5\n");
        Check.writes("enum E{A(token,token),B}" + main("match E::A(token(1),token(2)){A(x,y)=>{let z=token(3);}B=>{}}"
            + "print 0;"), "d3\nd2\nd1\n0\n");
        Check.writes("enum E{A(token,token),B}" + main("let e=E::A(token(1),token(2));match e{A(x,y)=>{x;print 5;}B=>{}}"
            + "print 0;"), "d1\n5\nd2\n0\n");
        Check.writes("enum E{A(token,token),B}" + main("let e=E::A(token(1),token(2));match &e{A(x,y)=>{print 5;}B=>{}}"
            + "print 0;"), "5\n0\nd1\nd2\n");
        Check.writes("enum E{A(token),B}fn f(e:E)->token{match e{A(x)=>{return x;}B=>{return token(7);}}}"
            + main("f(E::A(token(1)));f(E::B);"), "d1\nd7\n");
        Check.writes("enum E{A(token),B}" + main("let b=box E::A(token(1));match *b{A(x)=>{print 0;}B=>{}}print 2;"),
            "0\nd1\n2\n");
        Check.writes(main("let a=token(1);return;"), "d1\n");
        Check.writes("fn g(t:token){}" + main("let mut t=token(0);let mut i=1;while i<3{g(t);t=token(i);i=i+1;}"),
            "d0\nd1\nd2\n");
    }

    private static void assignments() {
        Check.writes(main("let mut a=token(1);a=token(2);print 0;"), "d1\n0\nd2\n");
        Check.writes(main("let mut b=box token(1);*b=token(2);print 0;b=box token(3);print 4;"), "d1\n0\nd2\n4\nd3\n");
        Check.writes(main("let mut a=token(1);{let r=&mut a;*r=token(2);print 0;}"), "d1\n0\nd2\n");
        Check.writes(P + main("let mut p=new P{a:1,t:token(1)};let r=&mut p;(*r).t=token(2);(*r).a=5;"
            + "*r=new P{a:7,t:token(3)};print p.a;"), "d1\nd2\n7\nd3\n");
        Check.writes("enum E{A(token,int),B}" + main("let mut e=E::A(token(1),2);match &mut e{A(t,n)=>{*t=token(3);*n=4;}"
            + "B=>{}}e=E::B;print 0;"), "d1\nd3\n0\n");
        Check.writes(main("let mut a=token(1);a=a;print 0;"), "0\nd1\n");
        Check.writes("enum L{E,C(int,box L)}" + main("let mut l=L::E;l=L::C(1,box l);l=L::C(2,box l);match &l{E=>{}C(n,t)"
            + "=>{print *n;match & **t{E=>{}C(m,u)=>{print *m;}}}}"), "2\n1\n");
    }

    private static void references() {
        Check.writes(main("let mut x=1;let r=&mut x;*r=*r+5;print *r;print x;"), "6\n6\n");
        Check.writes("fn inc(r:&mut int){*r=*r+1;}" + main("let mut x=1;inc(&mut x);inc(&mut x);print x;"), "3\n");
        Check.writes("fn pick(a:&mut int,b:&mut int)->&mut int{if *a>*b{return a;}return b;}"
            + main("let mut x=1;let mut y=2;let r=pick(&mut x,&mut y);*r=9;print x;print y;"), "1\n9\n");
        Check.writes(P + "fn a(p:&P)->&int{return &(*p).a;}" + main("let p=box new P{a:4,t:token(1)};let r=a(&*p);print *r;"),
            "4\nd1\n");
        Check.writes("struct S{a:int,b:T}struct T{c:int,d:box int}fn f(s:&mut S){(*s).b.c=7;*(*s).b.d=8;}"
            + main("let mut s=new S{a:1,b:new T{c:2,d:box 3}};f(&mut s);print s.a;print s.b.c;print *s.b.d;"), "1\n7\n8\n");
        Check.writes(main("let mut r;let x=1;let y=2;r=&x;print *r;r=&y;print *r;let s=r;print *s;"), "1\n2\n2\n");
        // Frames may move to a larger row of cells, references still find their places.
        Check.writes("fn f(r:&mut int,n:int){let mut m=n;if n>0{f(&mut m,n-1);*r=*r+m;}}"
            + main("let mut x=0;f(&mut x,50);print x;"), "1275\n");
    }

    private static void enums() {
        Check.writes("enum T{L,N(box T,int,box T)}fn add(t:T,v:int)->T{match t{L=>{return T::N(box T::L,v,box T::L);}"
            + "N(l,x,r)=>{if v<x{return T::N(box add(*l,v),x,r);}return T::N(l,x,box add(*r,v));}}}"
            + "fn show(t:&T){match & *t{L=>{}N(l,x,r)=>{show(&**l);print *x;show(&**r);}}}"
            + main("let mut t=T::L;let mut i=0;while i<7{t=add(t,i*5%7);i=i+1;}show(&t);"), "0\n1\n2\n3\n4\n5\n6\n");
        Check.writes("enum E{A,B(int),C(bool,int)}fn f(e:E)->int{match e{B(x)=>{return x;}C(y,z)=>{if y{return z;}"
            + "return -z;}A=>{return 0;}}}" + main("print f(E::A);print f(E::B(4));print f(E::C(true,5));print f(E::C(false,6));"),
            "0\n4\n5\n-6\n");
        Check.writes("enum O{N,S(int)}fn get(o:&O,d:int)->int{match & *o{S(x)=>{return *x;}N=>{}}return d;}"
            + main("let mut o=O::N;print get(&o,3);o=O::S(8);print get(&o,3);match &mut o{S(x)=>{*x=*x*2;}N=>{}}print get(&o,1);"),
            "3\n8\n16\n");
    }

    /** What a statement made is gone at its end, however often it comes. */
    private static void repeated() {
        OwnedPlaces x = new OwnedPlaces(16);
        String[] rounds = {"match &e{A=>{}}", "match E::A{A=>{}}", "e;e=E::A;", "let f=&e;", "if e()==1{}", "e();", "&e;"};
        for (String round : rounds) {
            String text = "enum E{A}fn e()->int{return 1;}" + main("let mut e=E::A;while true{" + round + "}");
            Check.feed(x, text);
            Check.due("fault of " + text, x.run(text.length(), 20000), 8);
            Check.state("of " + text, x, -1, 0, 0, 0, 0, 0, 0);
        }
        String e = "struct T{a:int,b:int,c:int,d:int,e:int}enum E{A,B(T,T,T)}";
        String loop = "let mut e=E::A;let mut i=0;while i<3000{i=i+1;";
        Check.writes(e + main(loop + "match E::A{A=>{}B(x,y,z)=>{}}}print i;"), "3000\n");
        Check.writes(e + main(loop + "match &e{A=>{}B(x,y,z)=>{}}}print i;"), "3000\n");
        Check.writes(e + main(loop + "E::A;}print i;"), "3000\n");
        Check.writes(e + main(loop + "e=E::A;}print i;"), "3000\n");
        Check.writes(e + main(loop + "let f=E::A;}print i;"), "3000\n");
        Check.writes(e + "fn f(e:E)->E{return e;}" + main(loop + "f(E::A);}print i;"), "3000\n");
        Check.writes(main("let mut i=0;while i<3000&&(i<4000||i==1){i=i+1;if i==0||i<0{}}print i;"), "3000\n");
    }

    private static void inputs() {
        OwnedPlaces x = new OwnedPlaces(500);
        x.input(5);
        x.input(-6);
        x.input(7);
        String text = main("let mut n=read;while n!=0{print n*2;n=read;}print read;");
        Check.feed(x, text);
        Check.due("run", x.run(text.length(), 99), 0);
        Check.due("written", Check.fetchAll(x), "10\n-12\n14\n0\n");
        x.input(1);
        x.input(2);
        text = main("print read/0;");
        Check.feed(x, text);
        Check.due("panic", x.run(text.length(), 99), 7);
        Check.due("what was read is gone", x.count(5), 1);
        Check.due("bytes", x.count(4), 0);
    }

    private static void faultsStop() {
        OwnedPlaces x = Check.runs(main("let a=token(1);let b=box token(2);print 3;print 1/0;"), 99, 7, "3\n");
        Check.due("nothing is dropped", x.count(1), 1);
        x = Check.runs(main("let a=box token(1);print 3;while true{}"), 99, 8, "3\n");
        Check.due("nothing is dropped", x.count(1), 1);
        String text = main("print 4;");
        Check.feed(x, text);
        Check.due("run behind a fault", x.run(text.length(), 9), 0);
        Check.due("written", Check.fetchAll(x), "4\n");
        Check.due("cells", x.count(2), 0);
        // What waits stays, run by run.
        Check.feed(x, text);
        x.run(text.length(), 9);
        Check.feed(x, text);
        x.run(text.length(), 9);
        Check.feed(x, "fn");
        Check.due("fault", x.run(2, 9), 1);
        Check.due("written", Check.fetchAll(x), "4\n4\n");
    }

    /** A list that fills the largest heap is dropped, and moved about, without harm. */
    private static void large() {
        OwnedPlaces x = new OwnedPlaces(4000);
        String text = "enum L{E,C(token,box L)}" + main("let mut l=L::E;let mut i=0;while i<1333{l=L::C(token(i),box l);"
            + "i=i+1;}print 0;");
        Check.feed(x, text);
        Check.due("run", x.run(text.length(), 20000), 0);
        Check.due("most", x.count(2), 3999);
        Check.due("in use", x.count(1), 0);
        Check.due("waiting", x.count(4), 4000);
        Check.due("first", Check.fetchAll(x).startsWith("0\nd1332\nd1331\n") ? 1 : 0, 1);
        text = "enum T{L,N(box T,box T)}fn grow(n:int)->T{if n==0{return T::L;}return T::N(box grow(n-1),box grow(n-1));}"
            + main("let t=grow(9);");
        Check.feed(x, text);
        Check.due("tree", x.run(text.length(), 20000), 0);
        Check.due("most of tree", x.count(2), 3066);
        Check.due("in use behind tree", x.count(1), 0);
    }
}
