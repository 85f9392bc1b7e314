/** Promise 4 with the fault 5 MOVE. */
public final class MoveTest {
    private static final String P = "struct P{a:int,t:token}";
    private static final String Q = "struct Q{p:P,b:box P,n:int}";
    private static final String E = "enum E{A,B(token)}";
    private static final String G = "fn g(t:token){}";

    public static void main(String[] args) {
        moved();
        unset();
        parts();
        boxes();
        branches();
        loops();
        logic();
        assigned();
        unreached();
        order();
        Check.end();
    }

    private static String main(String body) {
        return "fn main(){" + body + "}";
    }

    private static void bad(String body) {
        Check.fault(5, P + Q + E + G + main(body));
    }

    private static void fine(String body) {
        Check.fine(P + Q + E + G + main(body));
    }

    private static void moved() {
        String t = "let mut t=token(1);";
        bad(t + "let a=t;let b=@t;");
        bad(t + "let a=t;let b=@(t);");
        bad(t + "g(t);g(@t);");
        bad(t + "t;@t;");
        bad(t + "let a=t;let b=&@t;");
        bad(t + "let a=t;let b=&mut @t;");
        bad(t + "box t;box @t;");
        bad(t + "E::B(t);E::B(@t);");
        bad(t + "new P{a:1,t:t};new P{a:1,t:@t};");
        bad("let e=E::A;match e{A=>{}B(x)=>{}}match @e{A=>{}B(x)=>{}}");
        bad("let e=E::A;match e{A=>{}B(x)=>{}}match &@e{A=>{}B(x)=>{}}");
        bad("let e=E::A;match e{A=>{match @e{A=>{}B(y)=>{}}}B(x)=>{}}");
        fine("let e=E::A;match &e{A=>{}B(x)=>{}}match e{A=>{}B(x)=>{}}");
        fine(t + "let a=t;t=token(2);let b=t;");
        fine("let x=1;let y=x;let z=x;let r=&x;let s=r;print *r;print *s;let b=true;b;b;");
        bad("let mut x=1;let r=&mut x;let s=r;print *@r;".replace("*@r", "@*r"));
        bad("let mut x=1;let r=&mut x;let s=r;@*r=1;");
        bad("let mut x=1;let r=&mut x;let s=r;let u=@r;");
        bad("let mut x=1;let r=&mut x;let s=r;&@*r;");
        fine("let mut x=1;let r=&mut x;*r=2;print *r;let s=r;");
        Check.fault(5, "fn f(t:token)->token{let u=t;return @t;}" + main(""));
        bad("g(token(1));let u=token(2);let v=u;print 1+read;{let w=@u;}");
    }

    private static void unset() {
        bad("let x:int;print @x;");
        bad("let t:token;g(@t);");
        bad("let x:int;&@x;");
        bad("let r:&int;print @*r;");
        bad("let mut r:&mut int;@*r=1;");
        bad("let e:E;match @e{A=>{}B(x)=>{}}");
        bad("let e:E;match &@e{A=>{}B(x)=>{}}");
        fine("let x:int;x=1;print x;");
        fine("let t;t=token(1);g(t);");
        bad("let p:P;print @p.a;");
        fine("let x:int;let y:P;");
    }

    private static void parts() {
        String p = "let mut p=new P{a:1,t:token(1)};";
        bad(p + "let t=p.t;let q=@p;");
        bad(p + "let t=p.t;&@p;");
        bad(p + "let t=p.t;g(@p.t);");
        bad(p + "let t=p.t;g(@(p).t);");
        fine(p + "let t=p.t;print p.a;");
        fine(p + "let t=p.t;p.t=token(2);let q=p;");
        bad(p + "let q=p;print @p.a;");
        bad(p + "let q=p;p.t=token(2);let r=@p;");
        fine(p + "let q=p;p.t=token(2);p.a=1;let r=p;");
        fine("let mut p:P;p.t=token(2);p.a=1;let r=p;");
        fine("let mut p:P;p.t=token(2);g(p.t);");
        bad("let mut p:P;p.t=token(2);print @p.a;");
        String q = "let mut q=new Q{p:new P{a:1,t:token(1)},b:box new P{a:2,t:token(2)},n:3};";
        bad(q + "g(q.p.t);let p=@q.p;");
        bad(q + "g(q.p.t);let p=@q;");
        fine(q + "g(q.p.t);print q.p.a;print q.n;print (*q.b).a;");
        fine(q + "let p=q.p;q.p.a=1;q.p.t=token(1);let r=q;");
        bad(q + "let p=q.p;q.p.a=1;let r=@q;");
        fine(q + "let p=q.p;q.p=new P{a:1,t:token(5)};let r=q;");
        fine(q + "let p=q.p;let b=q.b;print q.n;");
        bad(q + "let b=q.b;print @(*q.b).a;");
        bad(q + "let b=q.b;@(*q.b).a=1;");
        bad(q + "let b=*q.b;let c=@q.b;");
        fine(q + "let b=*q.b;q.b=box b;let c=q;");
    }

    private static void boxes() {
        String b = "let mut b=box new P{a:1,t:token(1)};";
        bad(b + "let p=*b;print @(*b).a;");
        bad(b + "let p=*b;let c=@b;");
        bad(b + "let p=*b;let c=@*b;");
        bad(b + "let p=*b;@*b=new P{a:1,t:token(1)};");
        bad(b + "let c=b;@(*b).a=1;");
        bad(b + "let c=b;&@*b;");
        fine(b + "let p=*b;b=box p;print (*b).a;");
        fine(b + "print (*b).a;(*b).a=2;(*b).t=token(3);*b=new P{a:1,t:token(1)};let c=*b;");
        bad("let b=box box 1;let c=*b;print @**b;");
        bad("let b=box E::A;match *b{A=>{}B(x)=>{}}match &@*b{A=>{}B(x)=>{}}");
    }

    private static void branches() {
        String t = "let mut t=token(1);let c=read==0;";
        bad(t + "if c{g(t);}g(@t);");
        bad(t + "if c{}else{g(t);}g(@t);");
        fine(t + "if c{g(t);}else{g(t);}");
        fine(t + "if c{g(t);return;}g(t);");
        fine(t + "if c{g(t);t=token(2);}g(t);");
        bad(t + "if c{g(t);}else if c{g(t);}else{}g(@t);");
        fine(t + "if c{g(t);return;}else if c{g(t);return;}else{}g(t);");
        bad("let x:int;if true{x=1;}print @x;");
        bad("let x:int;if true{x=1;}else if true{x=2;}print @x;");
        fine("let x:int;if true{x=1;}else if true{x=2;}else{x=3;}print x;");
        fine("let x:int;if true{x=1;}else{return;}print x;");
        bad("let e=E::A;let t=token(1);match e{A=>{g(t);}B(x)=>{}}g(@t);");
        fine("let e=E::A;let t=token(1);match e{A=>{g(t);}B(x)=>{g(t);}}");
        fine("let e=E::A;let t=token(1);match e{A=>{g(t);return;}B(x)=>{}}g(t);");
        fine("let e=E::A;let x:int;match e{A=>{x=1;}B(y)=>{x=2;}}print x;");
        bad("let e=E::A;match e{A=>{}B(x)=>{g(x);g(@x);}}");
        String[] arms = {"A=>{g(t);g(@t);}B(x)=>{}", "A=>{}B(x)=>{g(t);g(@t);}", "B(x)=>{}A=>{g(t);g(@t);}", "B(x)=>{g(t);g(@t);}A=>{}"};
        for (String row : arms) {
            bad("let t=token(1);match E::A{" + row + "}");
            bad("let t=token(1);let e=E::A;match &e{" + row + "}");
        }
    }

    private static void loops() {
        bad("let t=token(1);while read==0{g(@t);}");
        fine("let mut t=token(1);while read==0{g(t);t=token(2);}g(t);");
        bad("let mut t=token(1);while read==0{g(@t);if read==1{t=token(2);}}");
        bad("let mut t=token(1);while read==0{if read==1{g(@t);return;}g(t);}");
        fine("let t=token(1);while read==0{if read==1{g(t);return;}}g(t);");
        fine("while read==0{let t=token(1);g(t);}");
        fine("while read==0{let t;t=token(1);g(t);}");
        bad("let x:int;while read==0{x=1;}print @x;".replace("{x=1;}print @x", "{@x=1;}print x"));
        bad("let mut x:int;while read==0{x=1;}print @x;");
        bad("let mut t=token(1);while read==0{while read==0{g(@t);}t=token(2);}");
        bad("let mut a=token(1);let mut b=token(2);let mut c=token(3);while read==0{g(a);a=b;b=@c;}");
        bad("while read==0{let t:token;while read==0{g(@t);}}");
        bad("let t=token(1);while read==0{&@t;while read==0{g(t);}}");
        bad("let t=token(1);while read==0{&@t;while read==0{while read==0{g(t);}}}");
        bad("let x:int;while 0==@x{x=1;}");
    }

    private static void logic() {
        String h = "fn h(t:token)->bool{return true;}";
        Check.fault(5, h + main("let t=token(1);read==0&&h(t);h(@t);"));
        Check.fault(5, h + main("let t=token(1);read==0||h(t);h(@t);"));
        Check.fault(5, h + main("let t=token(1);h(t)&&h(@t);"));
        Check.fault(5, h + main("let t=token(1);let u=token(1);(read==0&&h(t))||h(u)||h(@u);"));
        Check.fine(h + main("let t=token(1);h(t)&&read==0;"));
        Check.fault(5, h + main("let t=token(1);if read==0&&h(t){}else{h(@t);}"));
        Check.fault(5, h + main("let t=token(1);if read==0&&h(t){h(@t);}"));
        Check.fault(5, "fn k(t:token,u:token){}" + main("let t=token(1);k(t,@t);"));
        Check.fault(5, "fn k(a:int,u:token)->int{return a;}" + main("let t=token(1);k(k(1,t),@t);"));
    }

    private static void assigned() {
        bad("let x=1;@x=2;");
        bad("let x=1;@(x)=2;");
        bad("let x;x=1;@x=2;");
        bad("let x:int;if read==0{x=1;}@x=2;");
        fine("let x:int;if read==0{x=1;}else{x=2;}");
        fine("let t=token(1);g(t);t=token(2);");
        bad("let t=token(1);if read==0{g(t);}@t=token(2);");
        bad("let p=new P{a:1,t:token(1)};g(p.t);@p=new P{a:1,t:token(1)};");
        fine("let p=new P{a:1,t:token(1)};let q=p;p=new P{a:1,t:token(1)};");
        Check.fault(5, "fn f(a:int){@a=2;}" + main(""));
        Check.fault(5, "enum F{A(int)}" + main("match F::A(1){A(x)=>{@x=2;}}"));
        Check.fine("fn f(a:token){a;a=token(2);}" + main(""));
        bad("let b=box 1;let r=&*b;@b=box 2;");
        Check.fault(5, "fn f(r:&mut int){let mut x=1;@r=&mut x;}" + main(""));
        Check.fine("fn f(r:&mut int){let s=r;r=s;}" + main(""));
        fine("let x;while read==0{let y;y=1;}x=2;");
        bad("let mut t=token(1);let u=token(2);t=u;t=@u;");
        bad("let mut t=token(1);g(t);t=@t;");
        bad("let x=1;@x=x+1;");
    }

    private static void unreached() {
        fine("let t=token(1);g(t);return;g(t);");
        fine("let t=token(1);g(t);if read==0{return;}else{return;}g(t);");
        fine("let t=token(1);g(t);{return;}g(t);let x:int;print x;x=1;x=2;");
        fine("let t=token(1);g(t);match E::A{A=>{return;}B(x)=>{return;}}g(t);");
        bad("let t=token(1);g(t);while true{return;}g(@t);");
        bad("let t=token(1);g(t);while true{}g(@t);");
        fine("let t=token(1);while read==0{g(t);return;g(t);}");
        fine("return;while true{let t=token(1);g(t);g(t);}");
        String[] ways = {"if read==0{}", "if read==0{}else{}", "while read==0{}", "match E::A{A=>{}B(x)=>{}}",
            "read==0||read==1;", "read==0&&read==1;", "{}"};
        for (String way : ways) {
            fine("return;" + way + "let t=token(1);g(t);g(t);");
            fine("let t=token(1);g(t);return;" + way + "g(t);");
            fine("let x=1;if read==0{return;}else{return;}" + way + "x=2;");
            bad("let t=token(1);" + way + "g(t);" + way + "g(@t);");
            bad("let x:int;" + way + "print @x;");
            bad("let x=1;" + way + "@x=2;");
            bad("let x;if read==0{x=1;return;" + way + "}else{x=2;}" + way + "@x=3;");
        }
    }

    private static void order() {
        // The first place in the text's order, not in that of running.
        bad("let t=token(1);let mut p:P;let x:int;@t=token(2);p.a=x;");
        bad("let x:int;let y=1;@y=x;");
        bad("let mut x=1;let y:int;while read==0{print @y;let z:int;print z;}");
        String[] others = {"let t=token(1);let x:int;if read==0{t;}if read==0{}while read==0{}", "let x:int;let y:int;let z:int;"
            + "while read==0{}if read==0{}if read==0{}", "let x=1;let y=2;let z=3;while read==0{}if read==0{}if read==0{}"};
        String[] well = {"let t=token(1);if read==0{}if read==0{}while read==0{}t;", "let x:int;if read==0{}x=1;",
            "let x:int;if read==0{x=1;}else{x=2;}if x==0{}while read==0{}print x;", "return;if read==0{}let x:int;print x;",
            "let x:int;while read==0{}x=1;", "let x:int;return;while read==0{}print x;",
            "let x=1;return;if read==0{}x=2;"};
        Check.behind(others, well);
        // What is known of one function does not tell in the next one.
        Check.fine(G + "fn f(){let t=token(1);if read==0{g(t);}}fn main(){let t=token(1);if read==0{}g(t);}");
        Check.fine(G + "fn f(){let t=token(1);if read==0{}g(t);}fn main(){let t:token;if read==0{}t=token(1);}");
        Check.fault(5, "fn f(){let x:int;print @x;}fn main(){let y:int;print y;}");
        Check.fault(5, "fn main(){let y:int;print @y;}fn f(){let x:int;print x;}");
        // Each function's loans come behind its own moves, but ahead of the next function's.
        Check.fault(6, "fn f(){let mut x=1;let r=&x;@x=2;print *r;}fn main(){let y:int;print y;}");
        Check.fault(5, "fn f(){let mut x=1;let r=&x;x=2;print *r;let y:int;print @y;}fn main(){}");
        Check.fault(4, "fn f(){let y:int;print y;}fn main(){print @-true;}");
    }
}
