/** Promise 4 with the fault 6 LOAN. */
public final class LoanTest {
    private static final String P = "struct P{a:int,t:token}struct Q{p:P,q:P,b:box P}";
    private static final String E = "enum E{A,B(token,int)}";
    private static final String F =
        "fn i(r:&int)->int{return *r;}fn m(r:&mut int)->int{return *r;}fn same(r:&int)->&int{return r;}"
        + "fn two(r:&int,s:&int){}fn k(b:bool)->int{return 1;}fn mix(r:&mut int,x:int){}fn g(t:token){}"
        + "fn one<'a>(r:&'a int,s:&int)->&'a int{return r;}";

    public static void main(String[] args) {
        accesses();
        overlaps();
        boxes();
        holders();
        values();
        calls();
        throughReferences();
        matches();
        scopes();
        returns();
        loops();
        unreached();
        firstVariable();
        arms();
        oneBehindTheOther();
        order();
        Check.end();
    }

    private static String main(String body) {
        return "fn main(){" + body + "}";
    }

    private static void bad(String body) {
        Check.fault(6, P + E + F + main(body));
    }

    private static void fine(String body) {
        Check.fine(P + E + F + main(body));
    }

    private static void accesses() {
        String s = "let mut x=1;let r=&x;";
        fine(s + "print x;&x;print *r;");
        bad(s + "&mut @x;print *r;");
        bad(s + "@x=2;print *r;");
        bad(s + "@(x)=2;print *r;");
        fine(s + "print *r;x=2;&mut x;");
        String u = "let mut x=1;let r=&mut x;";
        bad(u + "print @x;print *r;");
        bad(u + "&@x;print *r;");
        bad(u + "&mut @(x);print *r;");
        bad(u + "@x=2;*r=1;");
        fine(u + "*r=1;print *r;print x;x=2;");
        String t = "let mut t=token(1);let r=&t;";
        bad(t + "g(@t);&*r;");
        bad(t + "@t;let q=r;");
        bad(t + "@t=token(2);let q=r;");
        fine(t + "&t;let q=r;g(t);");
        bad("let mut e=E::A;let r=&e;match @e{A=>{}B(a,b)=>{}}&*r;");
        bad("let mut e=E::A;let r=&mut e;match &@e{A=>{}B(a,b)=>{}}&*r;");
        bad("let mut e=E::A;let r=&e;match &mut @e{A=>{}B(a,b)=>{}}&*r;");
        fine("let mut e=E::A;let r=&e;match &e{A=>{}B(a,b)=>{}}&*r;");
        bad("let x=1;let mut y=2;let r=&mut y;let z=x+@y;print *r;");
        bad("let mut x=1;let r=&mut x;if @x==1{}print *r;");
    }

    private static void overlaps() {
        fields();
        String q = "let mut q=new Q{p:new P{a:1,t:token(1)},q:new P{a:2,t:token(2)},b:box new P{a:3,t:token(3)}};";
        fine(q + "let r=&mut q.p;let s=&mut q.q;(*r).a=1;(*s).a=2;");
        fine(q + "let r=&mut q.p.a;let s=&mut q.p.t;*r=1;*s=token(5);");
        bad(q + "let r=&mut q.p;let s=&mut @q.p.a;(*r).a=1;");
        bad(q + "let r=&mut q.p.a;let s=&mut @q.p;*r=1;");
        bad(q + "let r=&mut q.p.a;print @q.p.a;*r=1;");
        fine(q + "let r=&mut q.p.a;print q.q.a;*r=1;");
        bad(q + "let r=&q.p.a;@q=new Q{p:new P{a:1,t:token(1)},q:new P{a:2,t:token(2)},b:box new P{a:3,t:token(3)}};"
            + "print *r;");
        bad(q + "let r=&q.p.a;@q.p=new P{a:1,t:token(1)};print *r;");
        fine(q + "let r=&q.p.a;q.q=new P{a:1,t:token(1)};q.p.t=token(7);print *r;");
        bad(q + "let r=&q.p.a;let s=@q;print *r;");
        fine(q + "let r=&q.p.a;let s=q.q;print *r;");
        bad(q + "let r=&q;g(@q.p.t);&*r;");
        fine(q + "let r=&mut (*q.b).a;let s=&mut (*q.b).t;*r=1;&*s;");
        bad(q + "let r=&mut (*q.b).a;let s=&mut @*q.b;*r=1;");
        bad(q + "let r=&mut (*q.b).a;let s=&mut @q.b;*r=1;");
        bad(q + "let r=&mut (*q.b).a;let s=@*q.b;*r=1;");
        fine(q + "let r=&mut (*q.b).a;let s=q.p;*r=1;");
    }

    /** Two fields are never one another, one is itself; so with members of them, and with stars. */
    private static void fields() {
        String names = "abcdefghijkl";
        StringBuilder s = new StringBuilder("struct I{x:int,y:int}struct S{");
        for (int i = 0; i < 12; i++) {
            s.append(i == 0 ? "" : ",").append(names.charAt(i)).append(i == 5 ? ":I" : i == 11 ? ":box int" : ":int");
        }
        for (int i = 0; i < 12; i++) {
            for (int k = 0; k < 12; k++) {
                String one = "s." + names.charAt(i);
                String other = "s." + names.charAt(k);
                String body = "fn f(){let mut s=g();let r=&mut " + one + ";let t=&mut @" + other + ";&*r;&*t;}fn g()->S{return g();}";
                if (i == k) {
                    Check.fault(6, s + "}" + body + main(""));
                } else {
                    Check.fine(s + "}" + body.replace("@", "") + main(""));
                }
            }
        }
        String g = s + "}fn g()->S{return g();}fn f(){let mut s=g();";
        Check.fine(g + "let r=&mut s.f.x;let t=&mut s.f.y;*r=1;*t=2;}" + main(""));
        Check.fault(6, g + "let r=&mut s.f.x;let t=&mut @s.f;*r=1;}" + main(""));
        Check.fault(6, g + "let r=&mut *s.l;let t=&mut @s.l;*r=1;}" + main(""));
        Check.fine(g + "let r=&mut *s.l;let t=&mut s.k;*r=1;*t=2;}" + main(""));
    }

    private static void boxes() {
        String b = "let mut b=box new P{a:1,t:token(1)};";
        bad(b + "let r=&*b;let c=@b;&*r;");
        bad(b + "let r=&(*b).a;let c=@*b;&*r;");
        bad(b + "let r=&b;let c=@*b;&*r;");
        bad(b + "let r=&(*b).a;@b=box new P{a:1,t:token(1)};&*r;");
        bad(b + "let r=&(*b).a;@*b=new P{a:1,t:token(1)};&*r;");
        fine(b + "let r=&(*b).a;(*b).t=token(3);&*r;");
        bad("let r;{let b=box 1;r=&*b;@}print *r;");
        bad("let mut b=box box 1;let r=&**b;@*b=box 2;print *r;");
    }

    private static void holders() {
        bad("let mut x=1;let r=&x;let s=r;@x=2;print *s;");
        bad("let mut x=1;let r=&mut x;let s=r;@x=2;print *s;");
        fine("let mut x=1;let y=2;let mut r=&x;r=&y;x=2;print *r;");
        fine("let mut x=1;let mut r=&x;x=2;r=&x;print *r;");
        bad("let mut x=1;let y=2;let mut r=&x;if read==0{r=&y;}@x=2;print *r;");
        bad("let mut x=1;let mut y=2;let mut r=&x;if read==0{r=&y;}@y=2;print *r;");
        fine("let mut x=1;let mut y=2;let mut r=&x;if read==0{r=&y;}else{r=&y;}x=2;print *r;");
        fine("let mut x=1;let r=&x;let s=&x;print *r;x=2;");
        bad("let mut x=1;let mut r=&x;let mut s=r;r=s;s=r;@x=2;print *s;");
        fine("let mut x=1;let r=&x;{let r=&x;}x=2;");
        bad("let mut x=1;let r=&x;if read==0{@x=2;print *r;}");
        fine("let mut x=1;let r=&x;if read==0{x=2;}else{print *r;}");
        bad("let mut x=1;let mut r=&x;@x=2;if read==0{r=&x;}print *r;");
        bad("let mut x=1;let r;r=&x;@x=2;print *r;");
        // What one way brings is not held on another.
        fine("let mut x=1;let y=2;let mut r=&y;if read==0{r=&x;}else{x=2;}print *r;");
        fine("let mut x=1;let y=2;let mut r=&y;match E::A{A=>{r=&x;}B(t,n)=>{x=2;}}print *r;");
        fine("let mut x=1;let y=2;let mut r=&y;if read==0{r=&x;print *r;return;}x=2;print *r;");
        // Nor what is held in another function.
        Check.fine("fn f(){let x=1;let r=&x;print *r;}" + main("let mut x=1;let y=2;let r=&y;x=2;print *r;"));
        Check.fine("fn f(){let x=1;let q=&x;let y=2;let mut r=q;if read==0{}print *r;}"
            + main("let mut x=1;let q=&x;let y=2;let mut r=&y;if read==0{}x=2;print *r;"));
        Check.fine("fn f(){let mut x=1;let q=&mut x;*q=2;}" + main("let x=1;let q=&x;print x;print *q;"));
    }

    private static void values() {
        fine("let mut x=1;mix(&mut x,1);x=2;");
        bad("let mut x=1;mix(&mut x,@x);");
        bad("let mut x=1;two(&x,&@x);".replace("two(&x,&@x)", "mix(&mut x,i(&@x))"));
        fine("let x=1;two(&x,&x);");
        bad("let mut x=1;mix(&mut x,m(&mut @x));");
        fine("let mut x=1;print m(&mut x)+m(&mut x);x=m(&mut x);");
        fine("let mut x=1;mix(&mut x,2);mix(&mut x,3);");
        bad("let mut x=1;let y=2;mix(&mut x,y+(@x)*2);".replace("(@x)", "@(x)"));
        bad("let mut x=1;mix(&mut x,1+i(&@x));");
        bad("let mut x=1;mix(&mut x,1+2+i(&@x));");
        bad("let mut x=1;mix(&mut x,read*2-i(&@x));");
        bad("let mut x=1;let c=true;mix(&mut x,k(c&&true||!c)+i(&@x));");
        String w = "fn w(r:&mut int,p:P,e:E,b:box int,x:int){}" + P + E;
        Check.fault(6, w + main("let mut x=1;w(&mut x,new P{a:1,t:token(2)},E::B(token(1),2),box 3,@x);"));
        Check.fault(6, w + main("let mut x=1;w(&mut x,new P{t:token(-1),a:1+1},E::A,box (1+read),1-@x);"));
        Check.fine(w + main("let mut x=1;let y=2;w(&mut x,new P{a:y,t:token(y)},E::B(token(y),2),box y,-y);x=y;"));
        bad("let mut x=1;let c=true;print c||c;if m(&mut x)==1&&c{mix(&mut x,@x);}");
    }

    private static void calls() {
        bad("let mut x=1;let r=same(&x);@x=2;print *r;");
        fine("let mut x=1;let r=i(&x);x=2;print r;");
        bad("let mut x=1;let mut y=2;let r=one(&x,&y);@x=2;print *r;");
        fine("let mut x=1;let mut y=2;let r=one(&x,&y);y=2;print *r;");
        bad("let mut x=1;let mut y=2;let r=same(one(&x,&y));@x=2;print *r;");
        Check.fault(6, "fn any<'a>(r:&'a int,s:&int)->&int{return r;}"
            + main("let mut x=1;let mut y=2;let r=any(&x,&y);@y=2;print *r;"));
        Check.fault(6, "fn any<'a>(r:&'a int,s:&int)->&int{return r;}"
            + main("let mut x=1;let mut y=2;let r=any(&x,&y);@x=2;print *r;"));
        Check.fine("fn o<'a,'b>(r:&'a int,s:&'b int)->&'b int{return s;}"
            + main("let mut x=1;let mut y=2;let r=o(&x,&y);x=2;print *r;"));
        Check.fault(6, "fn o<'a,'b>(r:&'a int,s:&'b int)->&'b int{return s;}"
            + main("let mut x=1;let mut y=2;let r=o(&x,&y);@y=2;print *r;"));
        Check.fault(6, "fn o<'a>(r:&'a int,s:&'a int)->&'a int{return s;}"
            + main("let mut x=1;let mut y=2;let r=o(&x,&y);@x=2;print *r;"));
        Check.fault(6, "fn b(r:&mut int)->&mut int{return r;}"
            + main("let mut x=1;let r=b(&mut x);print @x;*r=1;"));
    }

    private static void throughReferences() {
        String p = P + "fn f(p:&mut P,x:&mut int){";
        Check.fine(p + "let a=&mut (*p).a;let t=&mut (*p).t;*a=1;*t=token(2);}" + main(""));
        Check.fault(6, p + "let a=&mut *p;let t=&mut @(*p).t;(*a).a=1;}" + main(""));
        Check.fault(6, p + "let a=&mut (*p).a;print @(*p).a;*a=1;}" + main(""));
        Check.fault(6, p + "let a=&(*p).a;@(*p).a=1;print *a;}" + main(""));
        Check.fault(6, p + "let a=&(*p).a;@*p=new P{a:1,t:token(1)};print *a;}" + main(""));
        Check.fault(6, p + "let a=&mut *x;let y=@x;*a=1;}" + main(""));
        Check.fault(6, p + "let a=&*x;let y=@x;print *a;}" + main(""));
        Check.fine(p + "let a=&mut *x;*a=1;let y=x;*y=2;}" + main(""));
        Check.fine(p + "let a=&*x;let b=&*x;print *a+*b+*x;}" + main(""));
        // What is reborrowed is held with what the reference holds.
        bad("let mut x=1;let r=&mut x;let s=&mut *r;print @x;*s=1;");
        bad("let mut x=1;let r=&x;let s=&*r;@x=2;print *s;");
        fine("let mut x=1;let r=&mut x;let s=&mut *r;*s=1;*r=2;x=3;");
        // An assignment to a reference meets no loan of what it refers to.
        fine("let mut x=1;let mut y=2;let mut r=&mut x;let s=&mut *r;r=&mut y;*s=3;*r=4;");
        bad("let mut x=1;let mut y=2;let mut r=&mut x;let s=&mut *r;r=&mut y;*s=3;@*r=4;print *s;");
        fine("let mut x=1;let mut r=&mut x;r=&mut *r;let s=r;*s=1;");
        bad("let mut x=1;let mut r=&mut x;r=&mut *r;@*r=1;print *r;");
        Check.fault(6, P + "fn f(b:&mut box P){let a=&mut (**b).a;@*b=box new P{a:1,t:token(1)};*a=2;}" + main(""));
    }

    private static void matches() {
        String e = "let mut e=E::B(token(1),2);";
        bad(e + "match &e{A=>{}B(t,n)=>{@e=E::A;print *n;}}");
        fine(e + "match &e{A=>{}B(t,n)=>{print *n;e=E::A;}}");
        fine(e + "match &e{A=>{e=E::A;}B(t,n)=>{}}");
        bad(e + "match &mut e{A=>{}B(t,n)=>{match &@e{A=>{}B(u,v)=>{}}*n=1;}}");
        bad(e + "match &e{A=>{}B(t,n)=>{match &mut @e{A=>{}B(u,v)=>{}}print *n;}}");
        fine(e + "match &e{A=>{}B(t,n)=>{match &e{A=>{}B(u,v)=>{print *v;}}print *n;}}");
        fine(e + "match &mut e{A=>{}B(t,n)=>{*n=1;*t=token(3);*n=2;}}e=E::A;");
        bad(e + "let mut r=&mut e;match &mut *r{A=>{}B(t,n)=>{print 1;match &@*r{A=>{}B(u,v)=>{}}*n=1;}}");
        bad(e + "let r;let x=1;match &e{A=>{r=&x;}B(t,n)=>{r=n;}}@e=E::A;print *r;");
        bad(e + "let r;let x=1;match e{A=>{r=&x;}B(t,n)=>{r=&n;@}}print *r;");
        bad("let mut b=box E::A;match &*b{A=>{}B(t,n)=>{@b=box E::A;print *n;}}");
        Check.fine(E + "fn f(e:&E)->&int{match & *e{A=>{return f(e);}B(t,n)=>{return n;}}}" + main(""));
        Check.fault(6, E + "fn f(e:E,x:&int)->&int{match &e{A=>{return x;}B(t,n)=>{@return n;}}}" + main(""));
    }

    private static void scopes() {
        bad("let r;{let x=1;r=&x;@}print *r;");
        fine("let r;{let x=1;r=&x;print *r;}");
        bad("let x=1;let mut r=&x;if read==0{let y=1;r=&y;@}else{let z=2;r=&z;}print *r;");
        bad("let x=1;let mut r=&x;while read==0{let y=1;r=&y;@}print *r;");
        bad("let x=1;let mut r=&x;while read==0{print *r;let y=1;r=&y;@}");
        fine("let x=1;let mut r=&x;while read==0{let y=1;r=&y;print *r;}");
        fine("let x=1;let mut r=&x;while read==0{let y=1;r=&y;print *r;r=&x;}print *r;");
        // The end of a block is no use of what stays.
        fine("let mut x=1;let r=&x;{let y=1;x=2;}");
        fine("let mut x=1;let r=&x;{let y=1;x=2;{let z=1;x=3;}}x=4;");
        fine("let mut x=1;let r=&x;while read==0{let y=1;x=2;}");
        fine("let mut x=1;let r=&x;if read==0{let y=1;x=2;}else{let z=1;x=3;}");
        // A reference that goes does not end what it refers to.
        Check.fine("fn f(r:&mut int)->&mut int{let s=&mut *r;return s;}" + main(""));
        fine("let mut x=1;let s;{let r=&mut x;s=&mut *r;}*s=2;");
        bad("let s;{let b=box box 1;{let r=&b;s=&**r;}@}print **s;");
        bad("let s;{let t=token(1);{s=&t;}@}&*s;");
        bad("let x=1;let s=&x;{let y=2;{let mut r=&x;r=&y;}}let mut q=s;{let z=1;q=&z;@}print *q;");
    }

    private static void returns() {
        Check.fault(6, "fn f(a:int)->&int{@return &a;}" + main(""));
        Check.fault(6, "fn f(a:&int)->&int{let x=1;@return &x;}" + main(""));
        Check.fault(6, "fn f(a:&int)->&int{let x=1;let r=&x;{if read==0{@return r;}}return a;}" + main(""));
        Check.fault(6, "fn f(a:&int)->&int{let b=box 1;@return &*b;}" + main(""));
        Check.fault(6, "fn f(a:&int,b:&int)->&int{let x=1;@return f(a,&x);}" + main(""));
        Check.fine("fn f(a:&int,b:&int)->&int{if *a<*b{return a;}return b;}" + main(""));
        Check.fine("fn f<'a>(a:&'a int,b:&int)->&'a int{let x=1;return f(a,&x);}" + main(""));
        Check.fault(6, "fn f<'a>(a:&'a int,b:&int)->&'a int{return @b;}" + main(""));
        Check.fault(6, "fn f<'a>(a:&'a int,b:&int)->&'a int{return @(b);}" + main(""));
        Check.fault(6, "fn f<'a,'b>(a:&'a int,b:&'b int)->&'a int{return @b;}" + main(""));
        Check.fault(6, "fn f<'a>(a:&'a int,b:&int)->&'a int{let mut r=a;if read==0{r=b;}return @r;}" + main(""));
        Check.fine("fn f<'a>(a:&'a int,b:&int)->&'a int{let mut r=b;r=a;return r;}" + main(""));
        Check.fault(6, "fn f<'a>(a:&'a int,b:&int)->&'a int{return @&*b;}" + main(""));
        Check.fine("fn f<'a>(a:&'a mut int)->&'a mut int{return &mut *a;}" + main(""));
        Check.fine("fn f<'a>(a:&'a int,b:&int)->&int{return b;}" + main(""));
        Check.fault(6, "fn f<'a>(a:&int)->&'a int{return @a;}" + main(""));
        Check.fault(6, P + "fn f<'a>(a:&'a P,b:&P)->&'a int{return @&(*b).a;}" + main(""));
        Check.fault(6, "fn f<'a>(a:&'a int,b:&int)->&'a int{let x=1;let mut r=b;if read==0{r=&x;}@return r;}" + main(""));
        Check.fault(6, "fn h<'a>(a:&'a int,b:&int)->&'a int{return a;}fn f<'a>(a:&'a int,b:&int)->&'a int"
            + "{return @h(b,a);}" + main(""));
        Check.fine("fn h<'a>(a:&'a int,b:&int)->&'a int{return a;}fn f<'a>(a:&'a int,b:&int)->&'a int"
            + "{return h(a,b);}" + main(""));
        // A variable that is gone already was told where it went.
        Check.fault(6, "fn f(a:&int)->&int{let mut r=a;while read==0{if read==1{return r;}let y=1;r=&y;@}return a;}"
            + main(""));
    }

    private static void loops() {
        bad("let mut x=1;let r=&x;while read==0{@x=2;print *r;}");
        bad("let mut x=1;let r=&x;while *r==0{@x=2;}");
        bad("let mut x=1;let y=2;let mut r=&y;while read==0{@x=2;print *r;r=&x;}");
        fine("let mut x=1;let y=2;let mut r=&y;while read==0{print *r;r=&y;x=2;r=&x;}");
        bad("let mut x=1;let mut y=2;let mut r=&mut y;while read==0{let s=&mut @x;*r=1;r=s;}");
        fine("let mut x=1;let mut y=2;let mut r=&mut y;while read==0{r=&mut x;*r=1;}");
        fine("let mut x=1;let mut y=2;let mut r=&mut y;while read==0{r=&mut x;}*r=1;");
        bad("let mut a=1;let z=0;let mut p=&z;let mut q=&z;let mut r=&z;let mut s=&z;"
            + "while read==0{print *s;@a=2;s=r;r=q;q=p;p=&a;}");
        fine("let mut a=1;let z=0;let mut p=&z;let mut q=&z;while read==0{print *q;q=&z;p=&a;a=2;}print *q;");
        bad("let mut x=1;while read==0{let r=&x;while read==0{@x=2;}print *r;}");
    }

    private static void unreached() {
        fine("let mut x=1;let r=&x;return;x=2;print *r;");
        String[] ways = {"if read==0{}", "if read==0{}else{}", "while read==0{}", "match E::A{A=>{}B(t,n)=>{}}",
            "read==0||read==1;", "read==0&&read==1;", "{}"};
        for (String way : ways) {
            fine("return;" + way + "let mut x=1;let r=&x;x=2;print *r;");
            fine("let mut x=1;let r=&x;return;" + way + "x=2;print *r;");
            fine("let mut x=1;let r=&x;if read==0{return;}else{return;}" + way + "x=2;print *r;");
            bad("let mut x=1;let r=&x;" + way + "@x=2;print *r;");
            bad("let mut x=1;let r=&x;if read==0{return;" + way + "}@x=2;" + way + "print *r;");
        }
        fine("let mut x=1;let r=&x;x=2;return;print *r;");
        fine("let mut x=1;let r=&x;if read==0{x=2;return;}print *r;");
        fine("let r;{let x=1;r=&x;return;}print *r;".replace("print *r;", ""));
        Check.fine("fn f(a:&int)->&int{return a;let x=1;return &x;}" + main(""));
        bad("let mut x=1;let r=&x;while true{@x=2;}print *r;");
    }

    /** What the first variable holds goes all ways as what others hold does. */
    private static void firstVariable() {
        String f = "fn f<'a>(a:&int,b:&'a int)->&'a int{";
        Check.fault(6, f + "if read==0{}return @a;}" + main(""));
        Check.fault(6, f + "while read==0{}return @a;}" + main(""));
        Check.fault(6, f + "read==0||read==1;return @a;}" + main(""));
        Check.fault(6, f + "match E::A{A=>{}B(t,n)=>{}}return @a;}" + E + main(""));
        bad("let r;let mut x=1;r=&x;if read==0{}@x=2;print *r;");
        bad("let r;let mut x=1;if read==0{r=&x;}else{r=&x;}@x=2;print *r;");
        bad("let mut r;let mut x=1;let y=2;r=&y;while read==0{@x=2;print *r;r=&x;}");
    }

    /** What is used in one arm alone is used, whichever that is; a name of an arm holds nothing. */
    private static void arms() {
        String e = "enum G{A,B,C(int)}";
        String[] uses = {"A=>{print *r;}B=>{}C(n)=>{}", "A=>{}B=>{print *r;}C(n)=>{}", "A=>{}B=>{}C(n)=>{print *r;}"};
        for (String row : uses) {
            Check.fault(6, e + main("let mut x=1;let r=&x;@x=2;match G::A{" + row + "}"));
            Check.fault(6, e + main("let mut x=1;let r=&x;let g=G::A;@x=2;match &g{" + row + "}"));
            Check.fine(e + main("let r;let mut x=1;r=&x;match G::A{" + row + "}x=2;match G::A{A=>{}B=>{}C(n)=>{}}"));
        }
        String[] faults = {"A=>{@x=2;print *r;}B=>{}C(n)=>{}", "A=>{}B=>{@x=2;print *r;}C(n)=>{}", "A=>{}B=>{}C(n)=>{@x=2;print *r;}"};
        for (String row : faults) {
            Check.fault(6, e + main("let mut x=1;let r=&x;match G::A{" + row + "}"));
            Check.fault(6, e + main("let mut x=1;let r=&x;let g=G::A;match &g{" + row + "}"));
        }
        Check.fine(e + main("let mut x=1;&x;match G::C(3){A=>{}B=>{}C(n)=>{x=2;print n;}}"));
        Check.fine(e + main("let r;let mut x=1;r=&x;x=2;match G::C(3){A=>{}B=>{}C(n)=>{}}"));
    }

    /** What was known of one function, or in one run, does not tell in the next one. */
    private static void oneBehindTheOther() {
        String shared = "fn f(){let mut x=1;let r=&x;print x;print *r;}";
        String unique = "fn g(){let mut x=1;let r=&mut x;print @x;print *r;}";
        Check.fault(6, shared + unique + main(""));
        Check.fault(6, unique + shared + main(""));
        Check.fine("fn f(){let mut x=1;&mut x;}fn g(){let mut x=1;&x;x=2;}" + main("let mut x=1;x=2;&x;"));
        String[] others = {"let mut x=1;let mut r=&x;while read==0{print *r;}", "let mut x=1;let r=&mut x;if read==0{*r=1;}",
            "let mut x=1;let mut r=&x;while read==0{while read==0{print *r;}r=&x;}", "let mut x=1;let r=&x;x=2;print *r;"};
        String[] fine = {"let mut x=1;let mut r=&x;while read==0{x=2;}", "let mut x=1;let r=&mut x;if read==0{x=2;}",
            "let mut x=1;let mut r=&x;while read==0{while read==0{x=2;}r=&x;}", "let mut x=1;let r=&x;x=2;"};
        Check.behind(others, fine);
        String[] held = {"let mut x=1;let y=2;let mut r=&x;while read==0{print *r;}",
            "let mut x=1;let y=2;let r=&x;if read==0{print *r;}else{}print *r;"};
        String[] free = {"let mut x=1;let y=2;&x;let mut r=&y;while read==0{x=2;print *r;}",
            "let mut x=1;let y=2;&x;let r=&y;if read==0{x=2;}else{x=3;}x=4;print *r;"};
        Check.behind(held, free);
        String[] reached = {"if read==0{}while read==0{}if read==0{}", "let x=1;let r=&x;while read==0{print *r;}if *r==0{}"};
        String[] unreached = {"return;if read==0{}let mut x=1;let r=&x;x=2;print *r;",
            "let mut x=1;let r=&x;return;while read==0{}x=2;print *r;", "return;while read==0{let mut x=1;let r=&x;x=2;print *r;}"};
        Check.behind(reached, unreached);
        String loops = "let mut x=1;let r=&x;while read==0{print *r;}if read==0{print *r;}";
        String more = "let mut x=1;let r=&x;while read==0{x=2;}if read==0{x=3;}";
        Check.textBehind("fn f(){" + Check.times(5, "if read==0{}") + "}" + main(loops), "fn f(){}" + main(more));
        Check.textBehind("fn f(){}" + main(loops), "fn f(){" + Check.times(5, "if read==0{}") + "}" + main(more));
    }

    private static void order() {
        // The return's word stands ahead of its exp.
        Check.fault(6, "fn m(r:&mut int)->int{return 1;}fn f(a:&int,x:int)->&int{@return &x;}" + main(""));
        bad("let mut x=1;let r=&x;let mut y=2;let s=&mut y;@x=y;print *r;print *s;");
        bad("let mut x=1;let mut y=2;let r=&x;let s=&y;if read==0{@y=1;}x=2;print *r+*s;");
        Check.fault(6, "fn f(){let mut x=1;let r=&x;@x=2;print *r;}fn main(){let mut x=1;let r=&x;x=2;print *r;}");
    }
}
