/** Made texts in which many sentences meet; what is due was told by a second implementation, by trees and by ways. */
public final class MadeTest {
    private static final String SHAPES =
            "struct S{a:int,t:token}struct T{s:S,b:box int,n:int}struct U{x:bool,y:box S}enum E{A,B(int),C(token,S)}enum "
            + "L{N,K(int,box L)}";
    private static final String REFERENCES =
            "struct S{a:int,b:box int}enum E{N,V(int,int)}fn sh(a:&int,b:&int)->&int{return a;}fn sl<'a>(a:&'a int,b:&int"
            + ")->&'a int{return a;}fn mu(a:&mut int)->&mut int{return a;}fn ml<'a,'b>(a:&'a mut int,b:&'b mut int)->&'b mu"
            + "t int{return b;}fn use2(a:&mut int,b:int){}fn es(e:&mut E)->&mut int{match &mut *e{N=>{return es(e);}V(a,b)="
            + ">{return b;}}}fn ns()->S{return new S{a:1,b:box 2};}fn main(){let mut x=1;let mut y=2;let mut u=3;let mut v="
            + "4;let mut b=box 5;let mut s=ns();let mut e=E::V(6,7);let mut q0:&int;let mut q1:&int;let mut r0:&mut int;let"
            + " mut r1:&mut int;";

    public static void main(String[] args) {
        rows0();
        rows1();
        rows2();
        rows3();
        rows4();
        rows5();
        rows6();
        rows7();
        rows8();
        Check.end();
    }

    /** What is due: the fault, the place, the fuel left, the cells in use, the most of them, the numbers left. */
    private static void row(int heap, int fuel, long[] input, String text, int[] due, String written) {
        OwnedPlaces x = Check.fed(heap, text);
        for (long v : input) {
            x.input(v);
        }
        Check.due("fault of " + text, x.run(text.length(), fuel), due[0]);
        Check.due("place in " + text, x.place(), due[1]);
        for (int what = 0; what <= 2; what++) {
            Check.due("count " + what + " of " + text, x.count(what), due[2 + what]);
        }
        Check.due("written by " + text, Check.fetchAll(x), written);
        Check.due("input behind " + text, x.count(5), due[5]);
    }

    private static void rows0() {
        row(16, 60, new long[] {},
            SHAPES
            + "fn f0(p0:int,p1:&mut T,p2:token)->&mut T{return p1;}fn f1(){print 0;}fn f2(p0:int)->box int{return box p0;}f"
            + "n main(){if !true{print -2;let mut v1=new T{s:new S{t:token(1),a:2},n:read/1,b:box 0};}print (false&&true)||"
            + "(true&&(read==0));print 2+2;if !(read!=0){let mut j=(7+7)/7;let mut v3=&j;}else{{print 1;}let v4=new T{s:new"
            + " S{a:7,t:token(2)},b:f2(3),n:0};if (read!=0)==(read!=0){}}print 3;let v5=(read==0)==(3!=7);let mut v6=&v5;v6"
            + "=&v5;return;}",
            new int[] {0, -1, 48, 0, 0, 0}, "true\n4\n3\n");
        row(60, 200, new long[] {2, 0, 0, 1, 1, 0},
            REFERENCES
            + "q0=&x;q1=&y;r0=&mut u;r1=&mut v;print *b;q1=sh(q1,q1);print *s.b;q1=&*q0;if read==0{print *r1;if read==0{*r0"
            + "=*q0;}else{print s.a;q0=&x;}y=y;r1=&mut *r1;}else{r1=&mut *r1;r0=r0;{let z=1;let mut w=2;y=read;print *r0;pr"
            + "int *s.b;}}b=box 1;}",
            new int[] {0, -1, 166, 0, 3, 4}, "5\n2\n3\n2\n");
        row(16, 60, new long[] {},
            SHAPES
            + "fn main(){print 1>=(-7);{if 2>=3{}else{print 2;print(-7)+(3/7);}print 1;let mut v1=box E::C(token(read),new "
            + "S{t:token(2),a:0});}match E::C(token(3),new S{t:token(4),a:7}){A=>{print-0;print 1;new S{t:token(5),a:7%2};}"
            + "C(v2,d)=>{print 2+3;let mut v4= &v2;v4=v4;}B(v5)=>{match L::N{K(v6,v7)=>{print false;print v5-v5;print v5%re"
            + "ad;}N=>{}}}}print(3+0)%(2/2);let mut e=0;let v9=token(1*2);if(read!=0)==(read==0){}else{v9=v9;}}",
            new int[] {0, -1, 43, 0, 4, 0}, "true\n2\n-7\n1\nd0\nd2\n5\nd4\nd3\n0\nd2\n");
        row(20, 200, new long[] {0, -3},
            SHAPES
            + "fn main(){print 7%3;while read!=0{print (read!=0)||false;}print 7;print 2;let f=E::B(read*3);&f;print 2;((re"
            + "ad!=0)==false)==(read!=0);}fn f0(p0:&int,p1:box box token)->&int{return &*p0;}",
            new int[] {0, -1, 190, 0, 0, 0}, "1\n7\n2\n2\n");
        row(60, 60, new long[] {2},
            SHAPES
            + "fn main(){print read/1;print -(0%2);print 7/1;let mut v1=-(3+3);v1=v1;match E::C(token(1),new S{t:token(2),a"
            + ":v1}){C(v2,e)=>{let mut v4:U=new U{y:box new S{a:3,t:e.t},x:e.a<=2};}B(v5)=>{}A=>{}}print v1;}",
            new int[] {0, -1, 51, 0, 2, 0}, "2\n0\n7\nd2\nd1\n-6\n");
        row(16, 200, new long[] {1, 1, 1, 0, 1},
            SHAPES
            + "fn main(){let mut a=E::C(token(0),new S{a:1,t:token(2)});let mut v2=new T{b:box 7,s:new S{a:read,t:token(3)}"
            + ",n:read-7};v2.s.t=token(4);let mut v3= &mut*v2.b;}",
            new int[] {0, -1, 195, 0, 1, 3}, "d3\nd4\nd0\nd2\n");
        row(60, 200, new long[] {0, 2},
            SHAPES
            + "fn main(){let mut v1=box new S{a:2,t:token(1)};let mut v2=box(((*v1).a)*((*v1).a));print(((*v1).a)>*v2)&&((("
            + "*v1).a)>0);let mut v1= &mut(*v1).a;}",
            new int[] {0, -1, 195, 0, 3, 2}, "false\nd1\n");
        row(16, 12, new long[] {1, 0, -3, 0, 0, 1},
            SHAPES
            + "fn f0(p0: &int,p1:int)->box S{print p1;print p1;&p1;match L::K(2,box L::N){N=>{let v1=box box token(1);print"
            + "*p0;}K(v2,v3)=>{}}return f0(p0,p1);}fn f1(p0:box E,p1: &E){let mut v4=p1;let mut v5:E=E::A;}fn f2()->U{retur"
            + "n f2();let mut v6;let mut e:box S=box new S{t:token(2),a:read};let mut v8= &*e;return new U{y:box new S{a:1,"
            + "t:token(3)},x:true};}fn main(){print(0/2)==(3*1);let mut v9=box new S{t:token(4),a:0};let v10=box E::B(1);}",
            new int[] {0, -1, 8, 0, 6, 6}, "false\nd4\n");
        row(60, 200, new long[] {2},
            SHAPES
            + "fn f0(p0:L,p1:L)->token{return f0(L::N,L::N);}fn main(){{print 7;let mut v1=2%(-2);}let mut v2=box E::C(toke"
            + "n(1),new S{a:7,t:token(2)});}",
            new int[] {0, -1, 195, 0, 4, 1}, "7\nd1\nd2\n");
        row(60, 200, new long[] {1, 1, -3, 0, 1, 2},
            SHAPES
            + "fn main(){print 1;print 3;while read!=0{while read!=0{let mut v1:box box token;let mut c=new T{s:new S{a:rea"
            + "d,t:token(1)},n:3+7,b:box 3};c.s.a=*c.b;}let mut v3=E::C(token(2),new S{a:3,t:token(3)});}print 2;let mut v4"
            + "=box new S{t:token(4),a:0};(*v4).a=(*v4).a;let mut v5=&(*v4).a;(*v4).t=token(5);}fn f0(p0:int,p1:&mut box E,"
            + "p2:int)->&mut box E{print p2;return p1;}",
            new int[] {0, -1, 174, 0, 2, 0}, "1\n3\nd1\nd2\nd3\nd1\nd2\nd3\n2\nd4\nd5\n");
        row(20, 60, new long[] {-3, 0, 2, 0, 1, 2},
            SHAPES
            + "fn f0(p0:box E)->E{return E::A;}fn main(){print 2;let v1=box E::B(1);let mut v2=&*v1;print (7/3)*(1*0);print"
            + " read!=0;let v3=&v1;while 0>0{let mut v4=box box token(1);}v2=v2;}",
            new int[] {0, -1, 50, 0, 4, 5}, "2\n0\ntrue\n");
        row(60, 60, new long[] {0, 0, -3, 0},
            SHAPES
            + "fn f0(p0:&mut S,p1:&mut T)->box box token{*p0=new S{a:(*p1).n,t:token((*p1).s.a)};let mut g=read-((*p1).n);m"
            + "atch L::N{N=>{let v2=&mut (*p1).s.t;(*p1).s.t=token(2);}K(a,v4)=>{print (*p1).n;}}return f0(p0,p1);}fn main("
            + "){let j;print 0;{let mut v6=E::C(token(3),new S{a:3,t:token(4)});v6=E::C(token(5),new S{a:1,t:token(6)});}le"
            + "t mut v7:E;let v8=2;let mut v9;}",
            new int[] {0, -1, 51, 0, 0, 4}, "0\nd3\nd4\nd5\nd6\n");
        row(20, 60, new long[] {1},
            SHAPES
            + "fn f0()->L{let mut v1:L=L::K(read/3,box L::N);return v1;let mut v2=new S{t:token(1),a:2};if (read==0)||(read"
            + "==0){v2.a=0;let mut v3=box E::A;if read!=0{let mut v4=((read==0)!=true)==(v2.a>=v2.a);v2.a=v2.a%v2.a;v2.t=v2"
            + ".t;}else if (read!=0)!=true{let v5:&L=&v1;v2.t=v2.t;}}return f0();}fn f1(){}fn main(){if !false{while (read="
            + "=0)&&(read!=0){let mut v6;}}else{if 2!=7{}return;let mut v7=f0();}let mut c=E::C(token(0),new S{a:7,t:token("
            + "3)});token(4);}",
            new int[] {0, -1, 54, 0, 0, 0}, "d4\nd0\nd3\n");
        row(60, 12, new long[] {2, 1, 0, 0},
            SHAPES
            + "fn f0()->box E{print 2;let v1=f0();print 0;{}return f0();}fn f1(p0:box S,p1:&L,p2:L)->&L{{}&p0;let mut v2:&S"
            + "=&*p0;return &*p1;}fn main(){let v3:E=E::C(token(1),new S{a:1,t:token(2)});while (read!=0)&&(read!=0){match "
            + "& v3{C(v4,b)=>{print (*b).a;print read;print read/2;}B(v6)=>{print *v6;}A=>{}}print 2;}print 0;let mut v7=&v"
            + "3;}",
            new int[] {0, -1, 0, 0, 0, 0}, "1\n0\n0\n2\n0\nd1\nd2\n");
        row(20, 60, new long[] {-3, 0},
            SHAPES
            + "fn f0()->T{return f0();}fn main(){print (-7)-3;print -7;print -read;return;print 1;while true&&false{let mut"
            + " v1=box (2/7);v1=v1;}}",
            new int[] {0, -1, 55, 0, 0, 1}, "-10\n-7\n3\n");
        row(60, 60, new long[] {2, -3, 0, 2, 0, 0},
            SHAPES
            + "fn main(){print 1-2;print 2;let v1:U=new U{x:(read==0)&&(read!=0),y:box new S{a:0,t:token(1)}};let v2=&v1;le"
            + "t mut v3=&*(*v2).y;v3=v3;print v1.x;if (*v2).x{let mut d=&(*v2).y;if false{v3=v3;}else{print 7;let v5=new T{"
            + "s:new S{a:1,t:token(2)},b:box 1,n:((*v3).a)+((*v1.y).a)};d=&v1.y;}}}",
            new int[] {0, -1, 51, 0, 2, 5}, "-1\n2\nfalse\nd1\n");
        row(20, 200, new long[] {},
            SHAPES
            + "fn f0(p0:&mut box E){box box token(1);return;if true==(read!=0){}}fn main(){let v1:E;let mut v2=box new S{a:"
            + "0,t:token(2)};v2=box new S{t:token(3),a:read};&mut *v2;v2=v2;(*v2).t=token(4);}",
            new int[] {0, -1, 193, 0, 4, 0}, "d2\nd3\nd4\n");
        row(16, 200, new long[] {},
            SHAPES
            + "fn main(){E::C(token(1),new S{t:token(2),a:0});print 7;print 1;}fn f0(p0:&mut box int)->&mut box int{match L"
            + "::N{N=>{let a=&mut **p0;}K(d,b)=>{print 1;}}return &mut *p0;}fn f1()->box E{print 3-3;2;return f1();}",
            new int[] {0, -1, 196, 0, 0, 0}, "d1\nd2\n7\n1\n");
        row(60, 12, new long[] {2, -3, -3},
            SHAPES
            + "fn main(){print 2;print false;print 1%read;}fn f0<'a>(p0: &box S,p1: &'a int)-> &box S{let mut v1= &(**p0).t"
            + ";let mut v2=E::C(token(1),new S{a:7,t:token(2)});return f0(p0,&*p1);return p0;}fn f1(p0:token,p1: &int)->box"
            + " box token{return f1(p0,&*p1);}",
            new int[] {0, -1, 8, 0, 0, 2}, "2\nfalse\n1\n");
        row(60, 200, new long[] {1},
            SHAPES
            + "fn f0<'b>(p0:&'b mut int)->bool{*p0=(*p0*3)%*p0;let v1=2;let mut v2=&v1;return f0(&mut *p0);}fn f1(p0:E,p1:i"
            + "nt)->U{let mut i=&p1;return f1(p0,read);}fn main(){print 7%2;print (7!=7)!=(read==0);}",
            new int[] {0, -1, 197, 0, 0, 0}, "1\nfalse\n");
        row(60, 60, new long[] {2},
            SHAPES
            + "fn main(){print 0/7;print false&&(true==(read==0));let mut v1=(read-3)*(read+3);v1=v1-(v1/7);v1=v1;}",
            new int[] {0, -1, 54, 0, 0, 0}, "0\nfalse\n");
        row(20, 60, new long[] {0, 0, 0, 0, 1},
            SHAPES
            + "fn main(){if!false{match E::B(1){B(v8)=>{}C(v9,v10)=>{let mut a:token=token(2);}A=>{print(3-1)/(3/7);let mut"
            + " v12:bool;}}print-3;if(read!=0)==true{let mut v13=(!(read!=0))!=(read!=2);print 7;}}print-2;print 7;match L:"
            + ":N{K(v14,v15)=>{print read;print v14%v14;}N=>{}}print read;print 7/1;}fn f0(p0:E){print 7;match&p0{C(v1,i)=>"
            + "{print((*i).a)+3;let mut v3= &*v1;}A=>{let v4= &p0;let v5=box new S{t:token(1),a:1};}B(v6)=>{let mut a=v6;}}"
            + "}fn f1(p0: &mut bool,p1: &mut L){}",
            new int[] {0, -1, 50, 0, 0, 3}, "-3\n-2\n7\n0\n7\n");
        row(16, 200, new long[] {1, 1, 0},
            SHAPES
            + "fn f0<'a>(p0:int,p1:&'a mut int,p2:&mut L)->&'a mut int{*p2=L::K(2,box L::N);print p0-*p1;{*p2=L::K(*p1,box "
            + "L::N);}return f0(3,f0(2,p1,&mut *p2),p2);}fn main(){print 2;let mut g=L::K(7+read,box L::N);{while read!=0{l"
            + "et mut v2=&mut g;v2=&mut g;let mut v3=token(1);}}g=g;g=g;let mut d=&mut g;print 7==(1/2);let v5=&g;}",
            new int[] {0, -1, 185, 0, 3, 0}, "2\nd1\nfalse\n");
        row(20, 12, new long[] {0},
            SHAPES
            + "fn main(){print 3%2;print 3;let mut v1=2;match L::K(v1,box L::N){N=>{}K(v2,v3)=>{&v3;v1=v1;print v1;}}while "
            + "read!=0{v1=-v1;}print v1;let mut v4=&v1;}fn f0<'a>(p0:&'a box box token)->&'a box box token{print 2-(1/read)"
            + ";return p0;}fn f1(p0:E,p1:&int,p2:L){}",
            new int[] {0, -1, 0, 0, 3, 0}, "1\n3\n2\n2\n");
        row(20, 12, new long[] {},
            SHAPES
            + "fn main(){print 1*3;if (read!=0)&&(read!=0){print 7;}else{match L::N{N=>{let mut v1:box E=box E::C(token(1),"
            + "new S{t:token(2),a:1});}K(i,v3)=>{print i;let mut a:token;print i;}}let mut v5=L::N;}let mut v6:box S=box ne"
            + "w S{t:token(3),a:1};}",
            new int[] {0, -1, 5, 0, 4, 0}, "3\nd1\nd2\nd3\n");
    }

    private static void rows1() {
        row(16, 200, new long[] {1, -3, 2},
            SHAPES
            + "fn main(){let mut v1;v1=new U{y:box new S{a:2,t:token(1)},x:read!=0};(*v1.y).t=token(2);(*v1.y).a=(*v1.y).a;"
            + "print v1.x;v1.x=v1.x;let mut v2=&mut (*v1.y).a;}",
            new int[] {0, -1, 192, 0, 2, 2}, "d1\ntrue\nd2\n");
        row(20, 60, new long[] {1, 0, 2},
            SHAPES
            + "fn f0(p0: &mut T){}fn main(){let mut v1;print 3;match E::C(token(1),new S{t:token(2),a:read}){B(v2)=>{match "
            + "E::A{A=>{}C(v3,v4)=>{let mut v5= &v4.t;}B(v6)=>{new T{n:v6,b:box v6,s:new S{a:v6,t:token(3)}};let mut v7=new"
            + " T{s:new S{a:7,t:token(3)},n:read,b:box 7};}}let f;}A=>{}C(v9,v10)=>{}}match E::A{C(v11,v12)=>{let mut b: &S"
            + "= &v12;let mut v14= &v12.a;match E::B(*v14){B(v15)=>{}C(v16,v17)=>{v14=v14;}A=>{let mut v18:int;let mut v19:"
            + " &token;print 1;}}}B(v20)=>{let mut v21= &v20;}A=>{v1=new S{a:-3,t:token(7)};v1.a;let mut v22= &v1;}}let mut"
            + " v23=new T{s:new S{t:token(6),a:read},n:read%7,b:box read};}",
            new int[] {0, -1, 51, 0, 1, 0}, "3\nd2\nd1\nd6\nd7\n");
        row(60, 60, new long[] {2},
            SHAPES
            + "fn main(){if false{}else{}print 1;print 1;while false==(read==0){let v1:E=E::B(2);print read;}let mut v2:box"
            + " S=box new S{a:7,t:token(2)};print 3;print (*v2).a;}fn f0(p0:int)->T{if 0>=p0{}print p0;return new T{s:new S"
            + "{t:token(1),a:p0},n:3%1,b:box p0};}",
            new int[] {0, -1, 48, 0, 2, 0}, "1\n1\n0\n3\n7\nd2\n");
        row(60, 60, new long[] {1, 0, 1, 1, 0},
            REFERENCES
            + "q0=&x;q1=&y;r0=&mut u;r1=&mut v;print y;match &e{N=>{y=1;}V(c,d)=>{r1=&mut *b;print *r0;print *c;}}{let z=1;"
            + "let mut w=2;q1=q0;s.a=1;}q0=&x;print y;r1=r0;}",
            new int[] {0, -1, 29, 0, 2, 5}, "2\n3\n6\n2\n");
        row(16, 200, new long[] {},
            SHAPES
            + "fn main(){let v1=read;if read==0{while read!=0{new S{t:token(1),a:v1};let mut v2=&v1;print *v2;}print v1;}el"
            + "se{}print 0!=(-v1);}",
            new int[] {0, -1, 193, 0, 0, 0}, "0\nfalse\n");
        row(16, 200, new long[] {0, 2, 0},
            SHAPES
            + "fn main(){print 1*7;let mut v1=E::C(token(1),new S{a:7,t:token(2)});if read!=0{let v2=&mut v1;while read!=0{"
            + "let v3=L::K(1,box L::N);print 7;}}else if true{}print 2<=(1/2);}",
            new int[] {0, -1, 195, 0, 0, 2}, "7\nfalse\nd1\nd2\n");
        row(16, 60, new long[] {0, 2, -3, 1},
            SHAPES
            + "fn main(){match E::A{B(h)=>{if !true{}else{}let mut v4=L::N;}C(v5,v6)=>{print v6.a;let mut v7=&v6.t;}A=>{let"
            + " mut d=false;d=d;d=d!=d;}}let mut v9=new T{b:box 2,n:0,s:new S{t:token(2),a:1}};print (v9.n+*v9.b)==v9.s.a;l"
            + "et mut v10:&mut int;}fn f0(p0:&U)->&U{if (read!=0)!=((*p0).x){let mut v1=p0;let v2=new U{y:box new S{t:token"
            + "(1),a:3},x:(*p0).x};}print (*p0).x;E::C(token(2),new S{t:token(read),a:read});return p0;}",
            new int[] {0, -1, 52, 0, 1, 4}, "false\nd2\n");
        row(60, 60, new long[] {-3, 1, -3},
            SHAPES
            + "fn main(){{print 7;}let c=0;print 7;print 2;let mut v4;let mut v5=token(1);}fn B(p0: &T)-> &T{return p0;}fn "
            + "f1(p0: &E)->int{let mut v1= &*p0;print true;let mut v2: &E;return f1(p0);}",
            new int[] {0, -1, 52, 0, 0, 3}, "7\n7\n2\nd1\n");
        row(20, 60, new long[] {1, 1, 0, 0},
            SHAPES
            + "fn f0(){let mut v1=7+(-1);let mut v2:&int=&v1;}fn main(){print 0+7;print read==0;let f=box E::B(2);print (-7"
            + ")!=3;print read;print 3;{let mut v4=&f;match & **v4{A=>{print 2-1;let mut v5:&box E=v4;}B(v6)=>{v4=v4;print "
            + "*v6**v6;v4=&f;}C(v7,v8)=>{let i:&token=v7;}}}let v10=&*f;}",
            new int[] {0, -1, 46, 0, 4, 2}, "7\nfalse\ntrue\n1\n3\n4\n");
        row(20, 200, new long[] {-3, 1},
            SHAPES
            + "fn main(){print 3+2;print !(!(read==0));print 2;print read;let mut b=3;if (read!=0)||(read==0){match L::N{K("
            + "v2,v3)=>{print read-v2;print b;print b;}N=>{b=b;let mut i:U=new U{y:box new S{t:token(1),a:b},x:false&&(read"
            + "!=0)};let mut j;}}}if false||(read==0){print b;}print b;}",
            new int[] {0, -1, 186, 0, 2, 0}, "5\nfalse\n2\n1\nd1\n3\n3\n");
        row(60, 12, new long[] {0, 2},
            SHAPES
            + "fn main(){let mut v1=0;v1=v1;let mut v2:T=new T{n:3,b:box 1,s:new S{t:token(1),a:1}};print false;v1=v2.n;if "
            + "v2.s.a<v1{v2.s.t=token(2);}}",
            new int[] {0, -1, 4, 0, 1, 2}, "false\nd1\nd2\n");
        row(60, 200, new long[] {0, 0, 1, 0, 1, 2},
            SHAPES
            + "fn main(){let mut v1=box box token(1);*v1=box token(2);v1=v1;let mut v2= &mut v1;v1=box box token(0);return;"
            + "let mut v3=3;**v2=box token(4);}fn f0(p0:T,p1:token){}",
            new int[] {0, -1, 193, 0, 4, 6}, "d1\nd2\nd0\n");
        row(60, 60, new long[] {1, 1, 1, 1},
            "struct S{a:int,t:token}struct T{s:S,b:box int,n:int}struct U{x:bool,y:box S}enum E{A,B(int),C(token,S)}enum "
            + "L{N,K(int,box token)}fn main(){print 2;print 2;print-read;print!(false&&false);print-(1*2);if read==0{}let v"
            + "1=box(1+1);}",
            new int[] {0, -1, 52, 0, 1, 2}, "2\n2\n-1\ntrue\n-2\n");
        row(16, 200, new long[] {1, 1, 0, 1},
            SHAPES
            + "fn main(){1;print read-(3/7);0;let mut v1=box new S{a:7,t:token(1)};let v2=(*v1).a;let mut v3:&token=&(*v1)."
            + "t;match E::C(token((*v1).a),new S{a:v2,t:token(3)}){C(v4,v5)=>{let b:L=L::N;}B(v7)=>{v3=&*v3;}A=>{v1=box *v1"
            + ";}}}",
            new int[] {0, -1, 191, 0, 2, 3}, "1\nd3\nd7\nd1\n");
        row(20, 60, new long[] {0},
            SHAPES
            + "fn main(){while false{print 2%read;print 1%(-7);let mut v2=new S{t:token(1),a:1/read};}print 0;match E::A{A="
            + ">{print 0;print 7-0;match L::N{K(v3,v4)=>{}N=>{let mut d=box E::A;print -(2-3);&d;}}}B(v6)=>{print 3;print v"
            + "6;print read;}C(v7,v8)=>{match E::A{C(v9,v10)=>{print v10.a;print (true==true)||(read!=0);print v10.a;}A=>{l"
            + "et v11:&int=&v8.a;let mut i:&token=&v8.t;let mut v13:&token;}B(v14)=>{print v8.a;print v8.a-v8.a;let mut v15"
            + "=&v14;}}print read*v8.a;let v16=&v8.a;}}if (read!=0)||(read==0){if false{}}else{{print (read*1)-read;let mut"
            + " v17=box new S{t:token(3),a:2};token(3);}print 3;}token(4);print read==0;let mut v18=1;}fn f0()->box int{let"
            + " mut v1;print 3+2;2/(7%read);print read;return box (0-0);}",
            new int[] {0, -1, 44, 0, 4, 0}, "0\n0\n7\n1\nd4\ntrue\n");
        row(60, 60, new long[] {-3, 0, 1, 0, 1},
            SHAPES
            + "fn main(){print false||(!(read!=0));let mut v1:box S=box new S{t:token(1),a:1};if true{}let mut v2=&v1;while"
            + " read!=0{return;&mut (*v1).t;(*v1).a=((**v2).a)+(((**v2).a)%3);}}",
            new int[] {0, -1, 53, 0, 2, 3}, "false\nd1\n");
        row(20, 60, new long[] {0, -3, 1, 2, -3},
            SHAPES
            + "fn main(){print read;let v1=E::C(token(2),new S{t:token(0),a:3});}",
            new int[] {0, -1, 57, 0, 0, 4}, "0\nd2\nd0\n");
        row(16, 60, new long[] {},
            "struct S{a:int,t:token}struct T{s:S,b:box int,n:int}struct U{x:bool,y:box S}enum E{A,B(int),C(token,S)}enum "
            + "L{N,K(int,box U)}fn main(){print(!(read!=0))||(read!=0);read!=0;print 3;print 3;let mut v1;-(2*0);v1=1;}",
            new int[] {0, -1, 52, 0, 0, 0}, "true\n3\n3\n");
        row(16, 200, new long[] {1, 1},
            SHAPES
            + "fn f0(p0:&mut U)->&mut U{let mut v1=1;let mut v2=E::A;let mut v3=&mut (*p0).x;return p0;}fn main(){print 3/3"
            + ";match E::C(token(1),new S{a:7,t:token(2)}){B(v4)=>{print v4;let mut v5=v4;}A=>{print 3%1;let mut v6=-0;prin"
            + "t v6;}C(v7,v8)=>{return;match L::N{N=>{print v8.a;print !((read!=0)&&(read!=0));}K(v9,v10)=>{}}}}print 3;pri"
            + "nt 2*1;print 3%2;let v11=E::C(token(3),new S{a:3,t:token(4)});print read;print -1;}",
            new int[] {0, -1, 196, 0, 0, 2}, "1\nd2\nd1\n");
        row(60, 12, new long[] {2, -3},
            SHAPES
            + "fn main(){print 1;print 2==(0-1);}",
            new int[] {0, -1, 9, 0, 0, 2}, "1\nfalse\n");
        row(20, 12, new long[] {1, -3, 1, 1, 0},
            SHAPES
            + "fn main(){print -7;if 3>=7{}print (3>3)&&(1!=read);print 2;match L::N{N=>{let mut v14;}K(v15,v16)=>{}}let mu"
            + "t v17=box (-read);read;}fn f0<'b>(p0:&'b mut int,p1:&int,p2:&U){return;match E::B(2){B(e)=>{match E::C(token"
            + "(1),new S{a:*p1,t:token(2)}){C(v2,v3)=>{print (*p2).x;print *p0;print 2;}B(v4)=>{*p0=v4;print *p0;*p0=*p1;}A"
            + "=>{let mut f=&*(*p2).y;print read-1;}}let v6:&int;if (*p2).x{let mut v7:&int=p1;print 7;2;}else{let mut v8=&"
            + "*(*p2).y;print (*p2).x;}}A=>{while read!=0{print (*p0*2)/*p1;}if (*p2).x{let mut v9=&*p2;print *p1;v9=&*p2;}"
            + "}C(v10,v11)=>{print (*p2).x;let v12=v11.a;let v13=v11.a;}}}",
            new int[] {0, -1, 3, 0, 1, 3}, "-7\nfalse\n2\n");
        row(16, 12, new long[] {-3, 0, 1, -3, 0},
            SHAPES
            + "fn main(){let v9=(false||false)||(false==(read==0));print 0;print 0;if v9{print 1;}else{let mut v10=&v9;let "
            + "mut e=&v9;}match L::K(1,box L::N){N=>{}K(v12,i)=>{print v12;}}print 0%1;print read;}fn f0<'b>(p0:&'b mut T,p"
            + "1:&mut int){}fn f1(p0:int){match E::C(token(1),new S{a:2,t:token(2)}){B(v1)=>{let mut v2:&int=&v1;v2=&p0;let"
            + " v3=box new S{t:token(3),a:7};}C(v4,v5)=>{7==p0;print v5.a;}A=>{while false{let mut v6:L=L::K(3%2,box L::N);"
            + "}}}let mut v7=&p0;let mut v8=new T{n:*v7,b:box p0,s:new S{a:p0,t:token(4)}};}fn f2(p0:int,p1:&mut int){}",
            new int[] {0, -1, 2, 0, 3, 3}, "0\n0\n1\n1\n0\n0\n");
        row(16, 60, new long[] {0, 0, 0, 0},
            SHAPES
            + "fn f0(p0:&mut box int)->&mut box int{let mut i=E::C(token(**p0),new S{a:**p0,t:token(2)});let mut v2=**p0;*p"
            + "0=box v2;*p0=box 0;return p0;}fn main(){let mut v3=0;match L::K(0,box L::N){N=>{v3=(read*3)/v3;}K(v4,v5)=>{v"
            + "3=3;v3=v3;}}print v3;print 2<(-7);print 2%v3;}",
            new int[] {0, -1, 52, 0, 3, 4}, "3\nfalse\n2\n");
        row(60, 12, new long[] {0, 0, 0, 0, 0},
            SHAPES
            + "fn main(){while read!=0{print -1;}print 7/1;let mut v3=box box token(2);let mut v4=true;print read==0;print "
            + "v4;let v5=new S{a:7,t:token(3)};{let g=&**v3;}}fn f0(p0:&L)->&L{print 2;print (!(read!=0))&&(true!=false);le"
            + "t mut v1=box box token(1);let v2:&mut token;return f0(p0);}",
            new int[] {0, -1, 1, 0, 2, 3}, "7\ntrue\ntrue\nd3\nd2\n");
        row(16, 200, new long[] {-3, 2, 0},
            SHAPES
            + "fn main(){false||(false!=(read!=0));let mut v1=token(1);new U{x:read>3,y:box new S{t:token(2),a:0}};v1=v1;le"
            + "t v2:&token=&v1;let mut v3=&mut v1;let mut v4:&token;print !(read!=3);}",
            new int[] {0, -1, 191, 0, 2, 0}, "d2\nfalse\nd1\n");
    }

    private static void rows2() {
        row(16, 60, new long[] {-3, 1, 2, 1},
            SHAPES
            + "fn main(){box new S{t:token(2),a:1};match L::N{K(v3,v4)=>{{&mut*v4;print v3;}}N=>{let mut v5=7;v5=v5;}}print"
            + " 1;print!(read>2);let mut v6=box new S{t:token(3),a:3};let mut j;let mut v8=box box token(4);if 2!=((*v6).a)"
            + "{}else if(read==0)&&(read==0){j= &mut v8;}else if!(read==0){*v8=*v8;}match&E::A{A=>{(*v6).a;}B(h)=>{}C(v10,v"
            + "11)=>{let v12: &box box token;}}}fn f0(p0: & &int)->L{&*p0;if(read!=0)||(read!=0){while read!=0{print(3/*N)*"
            + "*p0;print*p0;let mut v1;}}else if 3>=*p0{let mut v2=token(1);print(*p0/*p0)<=(-2);}print*p0;print*p0;return "
            + "f0(&*p0);}fn f1(p0:box S)->token{return f1(box*p0);}",
            new int[] {1, 420, 60, 0, 0, 4}, "");
        row(20, 200, new long[] {2, 1, 0},
            SHAPES
            + "fn main(){print 1;print read*read;let v1=E::A;print 3;new S{t:int(0),a:-read};print-1;let y;let mut v3= &v1;"
            + "((*read==0)!=true)!=false;}",
            new int[] {1, 187, 200, 0, 0, 3}, "");
        row(16, 12, new long[] {-3, -3, 2, 0, 1},
            SHAPES
            + "fn main(){let v5:int;match L::K(read,box L::N){K(v6,v7)=>{let v8= &v6;let mut c= &v5;}N=>{print v5;}}print 7"
            + ";print true;print&v5;let mut v10: &int;}fn f0(p0:L)->int{return read;}fn f1<'b>(p0:int,p1: &mut'b int)->box "
            + "int{return f1(read,p1);}fn f2(p0:int,p1:int)->E{match L::K(read,box L::N){N=>{}K(v1,v2)=>{match*v2{K(v3,v4)="
            + ">{print read;print v1(L::N);}N=>{}}}}print p0;print p1;return f2(p0,p1);}",
            new int[] {1, 328, 12, 0, 0, 5}, "");
        row(60, 12, new long[] {},
            SHAPES
            + "fn main(){return;print true;print 0;if 2!=7{}match E::C(token(1),new S{t:token(2),a:1}){A=>{print-7;}C(h,v2)"
            + "=>{let mut v3: &token= &v2.t;}B(v4)=>{while v4>v4{let mut v5: &int;let mut v6=token(3);print 0;}let v7=v4>=v"
            + "4;print!v7;}}let mut v8:!int;}fn f0<'a>(p0:box int,p1: &'a mut int)-> &'a mut int{return p1;}",
            new int[] {1, 365, 12, 0, 0, 0}, "");
        row(16, 60, new long[] {1, 0, 1, 1, 0},
            SHAPES
            + "fn main(){1;if false!=false{print 3;while true{print 0;}}match E::A{B(v1)=>{print v1;}C(v2,v3)=>{print v3.a;"
            + "print v3.a;}A=>{}}print read==0;if(read==0)||(read!=0){match L::K(7,box L::N){K(d,v5)=>{print d;}N=>{print(2"
            + "+read)-(1/0);}}}else if false{while 1!=3{print 1;let mut v6=(true==(read==0))==(false==(read==0));&v6;}let v"
            + "7=token(1);print 1-1;}else{while 7>=2{print 0;let v8=new T{b:box 2,s:new S{t:token(2),a:read},n:read%1};prin"
            + "t*v8.b*(-read);}let v9=0/3;let mut h: &*int;}}",
            new int[] {1, 596, 60, 0, 0, 5}, "");
        row(60, 12, new long[] {},
            SHAPES
            + "fn f0(p0:int,p1:&mut E,p2:&box E)->L{print p0;*p1=E::C(token(1),new S{a:1,t:token(2)});return f0(p0,p1,&*p2)"
            + ";}fn f1(p0:&box S,p1:L)->box int{let mut v1=p0;let mut v2=new S{t:token(3),a:(**v1).a};while read!=0{v2.t=to"
            + "ken(4);{let mut v3;let v4=box E::A;}}return box (read+7);}fn f2(p0:box S,p1:&mut int,p2:T)->&mut int{return "
            + "p1;}fn main(){token(5);print 2;print (3+1)>=3;let mut v5:int;let mut v6=&mut v5;if v5>2{v5=*v6;match & L::K("
            + "7,box L::N){K(v7,v8)=>{let mut v9:int=-v5;print read==0;let mut v10;}N=>{}}match E::A{A=>{let mut e:box E;}C"
            + "(v12,v13)=>{print 7;&*v6;}B(v14)=>{print v14*v5;}}}else{}match L::K(7,box L::N){N=>{print *v6;*v6=2;while fa"
            + "lse==(read!=0){print *v6;print *v6;}}K(v15,v16)=>{while false{let v17=v6;}let mut v18:L=*v16;print (v15/*v6)"
            + "-(*v6+v5);}}}",
            new int[] {1, 568, 12, 0, 0, 0}, "");
        row(20, 12, new long[] {0, 2, 0, 0, 1, 1},
            SHAPES
            + "fn main(){print -(read+read);let mut v7=token(2);let mut v8=&mut v7;}fn  <'a>(p0:&'a box box token,p1:box bo"
            + "x token)->box S{**p0=box token(1);return f0(p0,p1);}fn f1(p0:&mut int,p1:int,p2:&mut int)->&mut int{print re"
            + "ad==0;{match E::B(*p0){C(v1,v2)=>{}A=>{*p0=*p0;let mut v3:L;}B(d)=>{let mut v5=p2;let v6=&*p2;}}>}return &mu"
            + "t *p2;}fn f2(){}",
            new int[] {1, 198, 12, 0, 0, 6}, "");
        row(60, 60, new long[] {-3},
            SHAPES
            + "fn main(){2*(-7);if true&&true{match E::C(int(1),new S{t:token(2),a:read}){C(v1,v2)=>{let mut v3=E::A;print "
            + "v2.a-(-v2.a);print (v2.a*7)-v2.a;}B(v4)=>{let mut v5:&int;let mut v6=v5;}A=>{print 1*read;print 1;print 7+(1"
            + "/1);}}let v7;}else{}print true;print read;token(3);while read!=0{let mut v8:box int;}let v9=new U{y:box new "
            + "S{t:token(4),a:2},x:true};let mut v10:&bool;&*v10;}",
            new int[] {1, 167, 60, 0, 0, 1}, "");
        row(20, 60, new long[] {},
            SHAPES
            + "fn main(){print 0+1;let v1:U;let mut v2:U;(*v2.y).t=token(3);let v3=v1;v2=v2;}fn f0()->bool{return f0();}fn "
            + "f1<'c,'b>(p0: &'a int,p1: &'b box E)-> &'a int{return p0;}fn f2<'a>(p0: &mut int,p1: &'a mut token)->E{retur"
            + "n E::C(token(1),new S{t:token(*p0),a:2});}",
            new int[] {3, 248, 60, 0, 0, 0}, "");
        row(20, 60, new long[] {0, -3, 2},
            SHAPES
            + "fn main(){print 0/1;return;print 1;let mut v1:int;T=v1;}",
            new int[] {3, 175, 60, 0, 0, 3}, "");
        row(16, 12, new long[] {1, 1, 1, 1},
            SHAPES
            + "fn main(){let mut g:int=f0();let mut v2=E::B(g);match v2{B(v3)=>{}A=>{match&v2{C(v4,v5)=>{}B(v6)=>{v2=v2;g=2"
            + ";}A=>{let mut v7= &mut g;print g;}}&c;let mut v8= &mut g;}C(v9,v10)=>{print f0()>=v10.a;let mut v16= &v10;ma"
            + "tch&v2{B(v12)=>{}C(v13,v14)=>{v2=v2;v2=E::B(read);}A=>{v11;}}}}print B;match L::N{K(v15,v16)=>{if read!=0{le"
            + "t mut c= &v16;}}N=>{}}while false{let mut f=f0();&f;v2=v2;}while read!=0{let mut v19= &g;&*v19;while read!=0"
            + "{let v20:box box token=box box token(1);}}while 1!=g{print g%f0();&mut v2;}}fn f0()->int{print read-7;return"
            + " f0();}",
            new int[] {3, 269, 12, 0, 0, 4}, "");
        row(16, 12, new long[] {},
            "struct S{E:int,t:token}struct T{s:S,b:box int,n:int}struct U{x:bool,y:box S}enum E{A,B(int),C(token,S)}enum "
            + "L{N,K(int,box L)}fn main(){if(read!=0)||true{let mut v2:int=0;v2=v2;}else if 7<read{print(2<=2)||(read==0);}"
            + "else{}let v3=E::A;print 3*2;let v4: &E;let mut v5: &E=v4;match L::N{K(v6,e)=>{let v8: &E=v5;let mut v9: &box"
            + " L= &e;}N=>{let mut v10=v4;let mut v11= &*v4;}}return;let mut v12= &v3;}fn f0(p0: &mut S,p1:token)-> &mut A{"
            + "if!(read==0){(*p0).a;}else{}if read!=0{}else{}let mut v1=(*p0).a;v1=(*p0).a;return f0(f0(p0,p1),p1);}",
            new int[] {3, 430, 12, 0, 0, 0}, "");
        row(16, 12, new long[] {0},
            SHAPES
            + "fn main(){let mut v1:int=(-read)%(7*0);let mut v2= &mut v1;v2=v2;let mut d:box S=box new S{a:3,t:token(1)};l"
            + "et mut v4: &S;while true{*v2=3;if(read==0)&&false{let b: &int;v4= &*d;}v4= &*v4;}{print((*v4).a)-((*d).a);v2"
            + "=v2;v1=*v2;}let v6= &*v4;{while read!=0{let mut v7=true;}match L::K((*v4).a,box L::N){K(v8,h)=>{(*d).a=7*7;}"
            + "N=>{let v10= &(*v6).t;}}if((*L).a)!=1{let mut v11=(*v4).a;print*v2<=v11;let mut v12= &mut v1;}else if((*v6)."
            + "a)>1{}else if((*v6).a)>=((**v4).a){print(*d).a;}else{print 7;let mut v13=E::A;let mut v14:box S=box*d;}}}",
            new int[] {3, 478, 12, 0, 0, 1}, "");
        row(20, 200, new long[] {0, 2},
            SHAPES
            + "fn main(){if 1<=1{}print 2;E::C(token(1),new S{a:read,p2:token(2)});print 7*3;let mut v2=box 2;let v3= &mut "
            + "v2;print*v2**v2;print(**v3)+1;*v3=*v2;}fn f0<'a>(p0:E,p1: &'a mut U,p2: &mut U)-> &'a mut U{return f0(1>7,p2"
            + ",p2);let mut v1: &mut S;return p1;}",
            new int[] {3, 179, 200, 0, 0, 2}, "");
        row(16, 200, new long[] {},
            SHAPES
            + "fn f0(p0:E,p1:U,p2:U){&p2.v1;}fn f1(p0:L)->L{match p0{K(v1,c)=>{print v1;print v1;}N=>{}}match&p0{K(b,j)=>{l"
            + "et mut v5: &token= &p0;print*b;v5= &*v5;}N=>{let mut v6=new T{s:new S{t:token(1),a:0},n:2,v8:box 7};return p"
            + "0;let mut v7= &v6.s.a;}}print 1-3;if read==0{let v8=-7;v8;return p0;}return p0;}fn main(){match f1(L::N){N=>"
            + "{let mut g=token(2);let v10= &mut g;let mut v11: &token= &*v10;}K(v12,v13)=>{let f: &box L= &v13;let mut v15"
            + ": &L;let mut g=read;}}print read-2;{}let mut v17=0+7;let mut v18= &v17;v18=v18;}",
            new int[] {3, 151, 200, 0, 0, 0}, "");
        row(20, 200, new long[] {2, -3, 1, 2},
            SHAPES
            + "fn main(){print 3;let mut v2:box box token;match L::N{K(v3,v4)=>{let mut v5;let mut v6: &box box token= &v2;"
            + "if false==false{p0=v3%v3;}else{print v3;}}N=>{let mut v7= &mut**v2;let mut v8=new C{b:box 3,n:0,s:new S{a:2,"
            + "t:token(1)}};}}**v2=token(2);}fn f0(p0:int,p1: &mut box N,p2:S)->E{**p1=new S{a:p0,t:p2.t};return f0(p0,p1,p"
            + "2);}fn f1(p0: &int){&*p0;let mut j: &int= &*p0;j=j;if false{*j;}}",
            new int[] {3, 397, 200, 0, 0, 4}, "");
        row(16, 60, new long[] {},
            SHAPES
            + "fn main(){if(read!=0)!=false{print 2;if read<7{print 2*1;}else{print 1-2;print 2%0;}let mut f:L;}else{print "
            + "0;if read!=0{print 2;print 1;print false;}}print 7;let mut v2=1;match E::B(2){B(v3)=>{match L::K(v2,box L::N"
            + "){K(v4,v5)=>{v2=read%v3;let mut v6=new T{s:new S{a:7,t:token(1)},b:box v3,n:7};}N=>{print v2;}}v2=7;if true{"
            + "let v7= &v2;}else{}}A=>{match E::C(token(2),new S{a:v2,v10:token(3)}){B(v8)=>{print 7;let mut v9=new T{n:v8,"
            + "s:new S{a:1,t:token(4)},b:box v8};let v10= &v8;}A=>{print-7;let mut v11:E=E::C(token(5),new S{t:token(v2),a:"
            + "v2});print-v2;}C(v12,v13)=>{print v2;}}let mut d= &v2;while read!=0{let mut e;e=true;print*d;}}C(c,v17)=>{le"
            + "t mut d: &int= &v17.a;let mut v19=new T{s:v17,n:read-7,b:box 1};}}}",
            new int[] {3, 504, 60, 0, 0, 0}, "");
        row(60, 60, new long[] {},
            SHAPES
            + "fn main(){return;let mut v1:B;}",
            new int[] {3, 153, 60, 0, 0, 0}, "");
        row(16, 60, new long[] {2},
            SHAPES
            + "fn main(){let mut v1:int=3*(7/2);v1;while read==0{let mut v2:C=L::K(-v1,box L::N);}&mut v1;}",
            new int[] {3, 186, 60, 0, 0, 1}, "");
        row(60, 200, new long[] {1, 1, 0},
            SHAPES
            + "fn v6(){match L::N{K(j,d)=>{print j;print j;print j+j;}N=>{print 0*0;}}print 2*7;}fn f0<'b>(p0: &U,p1: &'b m"
            + "ut E)->box S{let i:int;match&mut*p1{B(v2)=>{let mut v5: &int;}C(v4,v5)=>{return f0(p0,p1);let mut v6=1;}A=>{"
            + "&i;}}let mut v7= &i;return f0(p0,&mut*p1);}",
            new int[] {3, 384, 200, 0, 0, 3}, "");
        row(60, 200, new long[] {1, 2, 1, 0, 1},
            "struct S{a:int,t:token}struct T{s:S,b:int,n:int}struct U{x:bool,y:box S}enum E{A,B(int),C(token,S)}enum L{N,"
            + "K(int,box L)}fn f0(p0: &int,p1:E)->int{while read!=0{&v6;print f0(&*p0,p1);p0;}if false||true{let mut a=box("
            + "new S{a:2,t:token(*p0)});print f0(p0,p1)>=((*a).a);let g= &a;}print f0(p0,p1);return*p0;}fn f1(){if false{-("
            + "1-3);}else{let mut h=3;h;h=h-3;}while read!=0{let mut v4=box new S{B:token(2),a:0};}}fn main(){print 7;match"
            + " E::A{C(v5,v6)=>{}A=>{print 7%3;let mut v7:int;}B(v8)=>{}}}",
            new int[] {3, 162, 200, 0, 0, 5}, "");
        row(16, 60, new long[] {1, 1},
            SHAPES
            + "fn main(){let mut v1=token(1);{if true==(read==0){print-1;}else if true{let mut v2= &mut L;let mut v3: &toke"
            + "n= &*v2;print 3+(0+0);}v1=token(2);}}",
            new int[] {3, 214, 60, 0, 0, 2}, "");
        row(60, 60, new long[] {1, 2},
            SHAPES
            + "fn main(){L::N;let mut v6=7;v6=v6*v6;v6=v6;v6=0;let mut v7= &mut v6;let mut v8:token=*v7;let v9:E=E::C(token"
            + "(1),new S{t:token(2),a:*v7});while true{while read==0{print v8*0;print(read<v6)||(v6>*v7);}v8=v6;}}fn f0(p0:"
            + " &bool,p1: &mut int,p2:U)-> &mut int{match L::N{K(v1,b)=>{if p2.x{let mut v3: &bool;v3= &(p2).x;}else{print*"
            + "p0&&*p0;print 0;p0;}p1=(2+v1)+((*p2.y).a);let mut v4= &*p0;}N=>{print 0;}}*p1=(*p2.y).a;let mut v5= &(*p2.y)"
            + ".a;*p1=3;return p1;}",
            new int[] {4, 210, 60, 0, 0, 2}, "");
        row(16, 60, new long[] {2, 1, -3, 1, 0},
            SHAPES
            + "fn main(){let mut v1=box box token(1);match L::K(read,box L::N){K(v2,v3)=>{}N=>{v1=!box*v1;while(read==0)==t"
            + "rue{**t=token(2);}}}**main=token(3);*v1=*v1;}",
            new int[] {4, 208, 60, 0, 0, 5}, "");
        row(16, 200, new long[] {2, 2, 2, 1},
            SHAPES
            + "fn main(){match L::N{K(v1,v2)=>{let mut d=v1;match&*v2{N=>{let mut v4= &d;let mut v5= &v2;v5=v5;}K(v6,v7)=>{"
            + "let mut v8= &mut**v7;print v1;let mut v9=box*v6;}}&mut d;}N=>{}}let mut v10=read;v10=v10;v10=v10;}fn f0(p0: "
            + "&E)->L{return f0(p0);return-f0(p0);}",
            new int[] {4, 249, 200, 0, 0, 4}, "");
    }

    private static void rows3() {
        row(60, 200, new long[] {2, 1, 1},
            SHAPES
            + "fn f0(p0: &T)-> &T{print(*p0).s.a;while read==0{&*p0;match L::N{K(v1,v2)=>{let mut v3=new T{b:box(*(*p0).b),"
            + "n:1,s:new S{t:token(1),a:0}};let mut v4=box(E::B((*p0).n));}N=>{}}}(*p0).s.a=(*p0).n;let mut v5= &(*p0).s.a;"
            + "return p0;}fn f1(p0: &mut E,p1:int)->L{let mut v6= &*p0;if!(read==0){print p1%p1;}else if p1>=p1{let mut e;v"
            + "6= &*p0;}return f1(p0,p1);}fn f2<'a>(p0:E,p1: &'a mut box box token)->E{&mut*p1;let mut v8=new U{x:false&&tr"
            + "ue,y:box new S{a:2,t:token(2)}};(*v8.y).t=token(3);let mut v9= &mut***p1;return p0;}fn main(){while 3!=3{let"
            + " mut v10=E::B(0);}while(read!=0)||(read!=0){new U{x:false,y:box new S{a:3,t:token(4)}};print-3;let mut v11=3"
            + "+(read/3);}let mut v12=false&&(3!=2);let mut v13= &v12;v13=v13;}",
            new int[] {4, 300, 200, 0, 0, 3}, "");
        row(16, 60, new long[] {1, 1, 0, 2, 0},
            SHAPES
            + "fn f0(p0:bool)->box S{return box new S{a:2,t:token(1)};}fn f1()->box E{return f1();}fn main(){match E::C(tok"
            + "en(2),new S{t:token(3),a:1}){B(v1)=>{match L::N{K(v2,v3)=>{print v2-0;&v2;}N=>{}}let mut v4=read!=0;}C(v5,v6"
            + ")=>{let mut v7= &v6.t;}A=>{}}let a=new U{x:1<=2,y:f0(read==0)};return;match E::A{C(v9,a)=>{print a.a;}B(v11)"
            + "=>{let mut v12= &a.x;v12;box box token(4);}A=>{match E::B((*a.y).a){B(v13)=>{print(*a.y).a;print(*a.y).a;}A="
            + ">{}C(v14,v15)=>{print v15.a;}}}}while a.x==true{let mut v16=!E::A;}let v17: &box S= &a.y;&a;let mut v18=new "
            + "T{n:1*((**v17).A),b:box((*a.y).a),v12:*a.y};}",
            new int[] {4, 617, 60, 0, 0, 5}, "");
        row(60, 200, new long[] {1, 1},
            SHAPES
            + "fn main(){{let mut v10=new U{y:box new S{a:0,t:token(2)},x:true==true};v10.y=box new S{a:3,t:token(3)};let v"
            + "11= &mut v10;}print 2;print 0*read;print 7%read;let mut v12:U=new U{y:box new S{t:token(4),a:3},x:0<read};le"
            + "t v13: &U= &mut v12;box box token(5);*v13=new U{x:(*v13).x,y:v12.y};}fn f0<'b>(p0: &'b mut box S,p1: &box in"
            + "t,p2: &int)->int{*p0=box(new S{t:token(1),a:(**p0).a});match L::N{K(v1,v2)=>{match E::B(v1){B(v3)=>{print 3;"
            + "let mut v4=p2;print v1;}C(v5,v6)=>{let mut v7=p2;}A=>{print f0(p0,p1,p2);}}v1=f0(&mut*p0,B,&(**p0).a);}N=>{p"
            + "rint(read<=0)==(false!=true);let mut v8=E::B(**p1);}}let mut v9= &mut**p0;return(**p0).a;}",
            new int[] {4, 352, 200, 0, 0, 2}, "");
        row(16, 12, new long[] {1, 0},
            SHAPES
            + "fn f0(p0:box S)->int{return (*p0).a;}fn f1<'a>(p0:&T,p1:&'a token,p2:&mut int){print *(*p0).b;}fn main(){pri"
            + "nt read;while 2!=3{let mut v1=3;v1=f0(box new S{a:v1,t:token(1)});}print f0(box new S{t:token(2),a:1});print"
            + " f0(box new S{t:token(3),a:1});let v2=new S{a:f0(box new S{a:read,t:token(4)}),t:token(5)};print v2.a-3;let "
            + "mut v3:&token=&v2.t;v3=v3;*v3=token(6);}",
            new int[] {4, 475, 12, 0, 0, 2}, "");
        row(16, 200, new long[] {0, -3, 1, 1, 1, 1},
            SHAPES
            + "fn main(){print 1*7;print 7;let v4:int;let mut g;&mut v4;print read==read;&v4;}fn f0(p0: &mut bool)->int{let"
            + " f=2;*p0=*p0;let mut v2= &f;return f0(&mut*p0);}fn f1(p0:box S,p1: &token)->int{let mut v3= &p0;v3=v3;return"
            + "(*p0).a;}",
            new int[] {4, 179, 200, 0, 0, 6}, "");
        row(16, 200, new long[] {1, 0, 1, 0, 0, 1},
            SHAPES
            + "fn main(){match L::K(0,box L::N){N=>{}K(v1,v2)=>{let v3=7;return;if v1==v3{let v4=v1;}else{}}}print f0(L::N)"
            + ";let mut d=f0(L::N);let f=box E::A;match & *f{B(v7)=>{*v7=f0(L::K(1,box L::N));}A=>{}C(v8,h)=>{print read!=0"
            + ";}}}fn f0(p0:L)->int{return f0(L::N);}",
            new int[] {4, 287, 200, 0, 0, 6}, "");
        row(16, 200, new long[] {0},
            SHAPES
            + "fn main(){print read;match E::A{C(f,v2)=>{print v2.a/v2.a;match E::B(v2.a){A=>{print v2.a;}B(v3)=>{let mut v"
            + "4: &int= &v3;print(2/0)**v4;}C(d,v6)=>{let mut v7= &v2;v7= &v7;}}}A=>{2;print 7;}B(v8)=>{print 3;return;prin"
            + "t v8;}}print 1;match E::A{C(v9,v10)=>{print v10.a;print v10.a;}A=>{}B(v11)=>{}}let v12=new S{t:token(1),a:0}"
            + ";v12.t=v12.t;v12.a=v12.a;}",
            new int[] {4, 292, 200, 0, 0, 1}, "");
        row(60, 12, new long[] {-3},
            SHAPES
            + "fn f0()->int{box f0();let v1=token(1);while(read==0)!=(read==0){print 3;print f0();let mut v2: &token=v1;}re"
            + "turn f0();}fn main(){while read>=2{f0()/f0();let mut v3=E::A;}new U{y:box new S{a:3,t:token(2)},x:3<3};f0();"
            + "}",
            new int[] {4, 227, 12, 0, 0, 1}, "");
        row(16, 60, new long[] {0, 0},
            SHAPES
            + "fn f0<'b>(p0:int,p1: &'b token)->E{&p0;*p1=token(1);let a=new T{b:box 7,s:new S{t:token(p0),a:p0},n:p0};*p1="
            + "A.s.t;return E::A;}fn main(){print 2;print-7;}",
            new int[] {4, 164, 60, 0, 0, 2}, "");
        row(20, 200, new long[] {},
            SHAPES
            + "fn f0()->S{let v1=box E::A;return f0();}fn main(){print 1;while(read==0)&&(*read==0){print 0*3;}{}box E::C(t"
            + "oken(1),new S{t:token(2),a:read});print 2;let mut v2=read;}",
            new int[] {4, 200, 200, 0, 0, 0}, "");
        row(16, 12, new long[] {},
            SHAPES
            + "fn main(){let mut v1=(-7)!=3;v1=true;let mut f= &v1;let h=f;let mut v4;let mut v5: &mut bool;v5= &v1;let mut"
            + " v5=token(1);while*v5{{let f: &token;let mut v8=*f;}}}",
            new int[] {4, 222, 12, 0, 0, 0}, "");
        row(60, 60, new long[] {1, 2, -3, 1, 1},
            SHAPES
            + "fn f0<'a>(p0: &'a token,p1: &E)->E{let mut v1= &*p1;v1= &*v1;match&*p1{A=>{let mut v2;print 7;}C(v3,v4)=>{pr"
            + "int 1;let v5=token(1);}B(v6)=>{}}v1= &*p1;return f0(p0,&*p1);}fn f1<'a,'b>(p0: &'b mut int,p1: &'a E,p2:int)"
            + "-> &'a E{while false||(read==0){box E::B(box p2);print p2>(y/p2);}let v7= &*p0;*p0=*p0-(*p0/2);*p0=*v7;retur"
            + "n p1;}fn f2<'b>(p0: &'b bool,p1: &'b mut box int,p2: &mut int)-> &'b bool{**p1=-*p2;**p1=(*p2%*p2)%(**p1);*p"
            + "2=2;return p0;}fn main(){{}let mut f:L=L::K(7,box L::N);}",
            new int[] {4, 382, 60, 0, 0, 5}, "");
        row(20, 200, new long[] {0, 1, 0},
            SHAPES
            + "fn main(){let mut v4=2;if (read==0)==true{}else if read!=0{}let v5;let mut v6=(v4/v4)+(v4%v4);match L::N{N=>"
            + "{v5=&v6;}K(v7,h)=>{match L::K(3,h){K(v9,f)=>{let mut j=&h;v5=&mut v6;}N=>{print v6;v5=&mut v6;let mut v12:&m"
            + "ut int;}}let v13=&*h;}}let mut v14=&mut v6;v6=read-v4;let mut v15=&*v14;}fn f0<'b>(p0:box E,p1:&'b token,p2:"
            + "&int)->box int{match *p0{A=>{print *p2;}B(v1)=>{print v1;print v1;}C(v2,v3)=>{}}box box token(1);return f0(b"
            + "ox E::A,&*p1,p2);}",
            new int[] {4, 294, 200, 0, 0, 3}, "");
        row(16, 60, new long[] {0},
            SHAPES
            + "fn main(){if read!=0{while read!=0{print(3+3)+(read%1);print 2*1;}let mut v4=7;let mut v5=(-0)-v4;}print 3;l"
            + "et v6:box int=box(-7);let mut v7= &v6;print!false;let v8= &*v6;v8;print**v7;&*v7;}fn f0(p0: &mut int,p1: &bo"
            + "x S,p2:token)->E{let mut v1=p1;if false{return f0(p0,p1,token(1));((**v1).a)-(-0);}else if true{}if((**p1).a"
            + ")<((**v1).a){print read;*p0=(**v1).a;while 0==((**p1).a){let mut v2=new U{x:false,y:box(new S{t:token((**p1)"
            + ".a),a:0})};}}else{let f;}v1= &*-p1;return p1(&mut*p0,p1,p2);}fn f1(p0: &mut box S,p1: &mut E,p2:T)->E{return"
            + " f1(p0,&mut*p1,new T{n:p2.s.a,s:p2.s,b:box 2});}fn f2(){print 3;new U{y:box new S{a:2,t:token(3)},x:false};p"
            + "rint 2+1;}",
            new int[] {4, 588, 60, 0, 0, 1}, "");
        row(20, 200, new long[] {0, 1, 1, 0},
            SHAPES
            + "fn main(){if 3>2{}else{}new U{y:box new S{a:7,t:token(4)},x:read==0};}fn f0()->box box token{print(0*2)+1;le"
            + "t mut v1:box int;if true{}else{*v1=1;let mut v2:box E=box E::A;print*v1;}return f0();}fn f1<'a,'b>(p0: &'b m"
            + "ut box S,p1: &'a box int,p2: &'b mut token)-> &'b mut box S{print false;match E::B(**p1){B(v3)=>{}A=>{while "
            + "false&&false{let v4: &mut token;*p2=token(1);(**p0).a=**p1;}let v5=new S{t:token(2),a:2};}C(v6,v7)=>{match L"
            + "::K(v7.a,L::N){K(j,v9)=>{print f2(&mut(**p0).a,&*p1,&v7.a);let mut v10= &*p0;}N=>{print f2(&mut(**p0).a,&*p1"
            + ",&(**p0).a);**p0=new S{a:0,t:token(3)};**p0=new S{a:(**p0).a,t:v6};}}}}return&mut*p0;}fn f2<'a>(p0: &'a mut "
            + "int,p1: &box int,p2: &int)->int{match L::K(2,box L::N){N=>{print*p2;}K(b,v12)=>{return**p1;*p0=2;}}return**p"
            + "1;}",
            new int[] {4, 566, 200, 0, 0, 4}, "");
        row(60, 200, new long[] {},
            SHAPES
            + "fn f0()->U{f0();}fn main(){print 1/7;let v1=E::C(token(1),new S{t:token(2),a:read});let mut v2=new S{t:token"
            + "(3),a:3+read};}",
            new int[] {4, 141, 200, 0, 0, 0}, "");
        row(20, 200, new long[] {1},
            SHAPES
            + "fn f0(){let mut v1=token(1);if read!=0{}while read!=0{print read==0;}let mut v2=new T{b:2,n:read+0,s:new S{a"
            + ":0,t:v1}};}fn main(){while read!=0{print 1;}print 1;token(2);match E::C(token(3),new S{a:7,t:token(0)}){B(v3"
            + ")=>{&v3;let mut v4;let mut v5: &int= &v3;}C(v6,g)=>{0;print g.a;match L::N{N=>{print read;}K(v8,v9)=>{print("
            + "-read)-v8;print g.a;let mut v10=*v9;}}}A=>{let v11;if true{print 1-3;}}}}",
            new int[] {4, 213, 200, 0, 0, 1}, "");
        row(20, 60, new long[] {1, 0, 1, 0},
            SHAPES
            + "fn f0()->L{if false==(read!=0){return f0();let mut b=L::K(f2(),box L::N);}else if 7>2{match L::K(0,box L::N)"
            + "{N=>{print f1();print f1();}K(g,v3)=>{print-(read*g);let mut v4:box S;let mut g=g+(2+2);}}print((read==0)!=t"
            + "rue)==((read!=0)==true);}3;print!(7<0);return&L::N;}fn f1()->int{let mut v6;let mut v7=new U{y:box new S{a:r"
            + "ead,t:token(1)},x:read==read};return f2();}fn f2()->int{if(read!=0)!=true{print-1;E::A;let e:E=E::C(token(2)"
            + ",new S{a:read,t:token(3)});}else{let v9:int;}return f2();}fn main(){print f1();print f1();let mut v10=f1();v"
            + "10=v10;}",
            new int[] {4, 386, 60, 0, 0, 4}, "");
        row(20, 12, new long[] {-3, 1, 0, 1, 0, 1},
            SHAPES
            + "fn main(){print read==0;if true||false{print 0/1;let mut v1:int;}else{let a=new S{t:token(1),a:0-2};if read>"
            + "a.a{print a.a;let mut h:box S=box a;}}box E::C(token(2),new S{t:token(7),a:7});print 0;print(7*3)+3;print(7%"
            + "0)*(3*1);}fn f0(p0: &box E,p1: &box L)-> &box E{return p1;}fn f1(){print 0;}",
            new int[] {4, 396, 12, 0, 0, 6}, "");
        row(16, 60, new long[] {2, 2, 1, 0, 1, 2},
            SHAPES
            + "fn f0()->S{let v1=box E::A;return new S{a:1*7,t:token(1)};match f1(){K(v2,v3)=>{let v4:box box token=box box"
            + " token(v2);print v2;let mut v5= &*v3;}N=>{let mut v6= &*v1;}}return new S{t:token(3),a:1};}fn f1()->L{print "
            + "read%2;print 3;return f1();return f1();}fn f2(p0: &box box L,p1: &S,p2: &mut box int){while false{(*p1).a;}m"
            + "atch E::B(3){B(v7)=>{*p2=box 2;let mut v8=v7;}C(v9,i)=>{*p2=box i.a;let mut v11= &(*p1).t;let v12=token(((*p"
            + "1).a)%((*p1).a));}A=>{&mut***p0;*p2=box(**p2);}}let mut v13= &mut***p2;}fn main(){print 0+7;print read%7;pri"
            + "nt-7;print 2;let mut v14:int=(3/7)-read;let mut v15;v15=0;let v16=read*v14;let v17=7;}",
            new int[] {4, 583, 60, 0, 0, 6}, "");
        row(60, 12, new long[] {1, 1, 2, 0, 0, 2},
            SHAPES
            + "fn main(){let mut v5=L::N;if 1>=7{}else if read<=0{let mut j=box (2-1);*j+*j;}else{}match & mut v5{N=>{let v"
            + "7:&mut L=&mut v5;let v8=box E::B(0);}K(v9,v10)=>{let v11=&mut **v10;&v5;}}v5=v5;&mut v5;v5=v5;match v5{K(v12"
            + ",v13)=>{let mut v14=&v5;if false||(read==0){v14=v14;v14=&v5;print 0;}}N=>{}}}fn f0(p0:&U,p1:E,p2:&mut E){}fn"
            + " f1(p0:&token,p1:box E,p2:box S)->&token{return p0;while read==0{print (*p2).a;match L::K((*p2).a,box L::N){"
            + "K(v1,v2)=>{print (*p2).a;}N=>{print (*p2).a;print (*p2).a;print ((*p2).a)/((*p2).a);}}}print ((*p2).a)/3;(*p"
            + "2).a=((*p2).a)%((*p2).a);return p0;}fn f2(){print 2;let mut v3=box E::C(token(1),new S{t:token(2),a:read});l"
            + "et mut v4=&mut v3;}",
            new int[] {4, 662, 12, 0, 0, 6}, "");
        row(16, 60, new long[] {},
            SHAPES
            + "fn main(){E::C(f0(),new S{t:token(1),a:1});let v7:S;match L::N{K(j,v9)=>{}N=>{}}print((*v7).a)*((*v7).a);}fn"
            + " f0()->token{if false{match E::A{B(v1)=>{box E::B(v1);print v1;}C(v2,v3)=>{print 0-v3.a;let mut v4= &v3.t;le"
            + "t mut v5:int=v3.a;}A=>{print 7;let mut v6=(read+3)%3;}}}return f0();}",
            new int[] {4, 212, 60, 0, 0, 0}, "");
        row(60, 12, new long[] {1, -3, -3, 1, 1, 2},
            SHAPES
            + "fn f0(p0: &int)->box S{let mut v1= &*p0;let v2=v1;return box(new S{t:token(1),a:p0});}fn f1(p0:box int,p1:in"
            + "t)->E{print p1;&p1;return E::B(p1);return f1(p0,p1);}fn f2(p0:box E,p1: &S,p2: &token){}fn main(){box 7;prin"
            + "t 7-2;match f1(box 2,0){B(v3)=>{let mut v4= &v3;v4= &v3;}A=>{let v5:int;&v5;if 1<=v5{print v5/v5;let v6: &in"
            + "t;print*v6;}else{}}C(i,v8)=>{let mut v9= &v8;(*S).a=v8.a;let mut v10=f0(&v8.a);}}print 0+1;}",
            new int[] {4, 205, 12, 0, 0, 6}, "");
        row(16, 12, new long[] {1, 0, -3},
            SHAPES
            + "fn main(){{let v3=7;}let v4:token=token(1);let v5: &L= &v4;match f1(){A=>{print 1*3;let mut b;let mut e=v5;}"
            + "B(v8)=>{}C(v9,v10)=>{let c= &v10.a;print*c;}}print 3;let v12:int=0-(-1);let v13=L::N;let mut v14=new T{s:new"
            + " S{t:token(v12),a:2},n:7-3,b:box 3};}fn f0<'a>(p0: &'a box S){}fn f1()->E{return f1();}fn f2(){let mut v1;le"
            + "t mut v2=(read+read)*(-7);}",
            new int[] {4, 180, 12, 0, 0, 3}, "");
        row(16, 60, new long[] {},
            "struct S{a:int,t:token}struct T{s:S,b:box int,n:int}struct U{x:bool,y:box S}enum E{A,B(int),C(token,S)}enum "
            + "L{N,K(int,L)}fn main(){let mut v1=read!=(-3);v1=v1&&v1;v1=(3%1)==(read%7);v1=v1;let v2:int=7%7;let v3;while "
            + "read!=0{let mut v4= &v1;v3=v4;}let mut v5:T=new T{s:new b{t:token(1),a:read},b:box v2,n:v2};}",
            new int[] {4, 108, 60, 0, 0, 0}, "");
    }

    private static void rows4() {
        row(16, 60, new long[] {-3, 1, 0, 1},
            SHAPES
            + "fn f0(){let mut v1:box box token;let v2=&v1;if true==(read==0){match L::K(7,box L::N){K(v3,v4)=>{let mut v5="
            + "&*v4;}N=>{*v1= token(1);let mut v6=box new S{a:7,t:token(2)};let mut v7:&mut token=&mut **v1;}}let v8:&box t"
            + "oken;let mut v9:E=E::C(token(3),new S{a:7,t:token(4)});}else{**v1=token(5);let mut v10=&**v1;&**v2;}}fn f1()"
            + "->box S{return box new S{a:2,t:token(6)};}fn main(){match L::K(7,box L::N){K(v11,v12)=>{let v13:&box L=&v12;"
            + "}N=>{print 7-2;let mut v14:E=E::B(0);let v15=&mut v14;}}print 2*2;print 2;let mut v16;print 0;let mut i:S=ne"
            + "w S{a:-read,t:token(7)};let mut v18=&mut i.t;match L::K(i.a,box L::N){N=>{if i.a>=3{}else if true{}else if i"
            + ".a<=7{print i.a;}else{let mut v19=&i;print i.a;print 7;}}K(v20,c)=>{}}}",
            new int[] {4, 248, 60, 0, 0, 4}, "");
        row(60, 60, new long[] {},
            "struct S{a:int,t: &token}struct T{s:S,b:box int,n:int}struct U{x:bool,y:box S}enum E{A,B(int),C(token,S)}enu"
            + "m L{N,K(int,box L)}fn main(){let mut v1=box read;let mut T: &mut box int= &mut v1;}",
            new int[] {4, 18, 60, 0, 0, 0}, "");
        row(16, 60, new long[] {},
            SHAPES
            + "fn main(){print 1;print 1;if 0<=7{print 7;}else{print-(3%read);}}fn f0<'a>(p0: &'a mut box S,p1:L)->box box "
            + "token{print((**p0).a)<=(((**p0).a)-((**p0).a));match p1{K(v1,v2)=>{}N=>{(**p0).t=!token(1);let mut c: &mut S"
            + "= &mut**p0;(**p0).t=token(2);}}let mut v4=(((**p0).a)-2)/((**p0).a);if(read!=0)&&true{while read!=0{let mut "
            + "v5= &mut**p0;let mut v6: &L= &p1;}let v7: &box S;}else{}return f0(p0,p1);}fn f1()->E{print-7;if 3<3{print 0;"
            + "let mut v8:box box token=box box token(3);let mut v9: &mut token= &mut**v8;}while 2<=3{match f1(){B(v10)=>{}"
            + "C(v11,v12)=>{let mut v13:U=new U{y:box v12,x:v12.a<1};}A=>{print 7;print 2;print 3*7;}}print(read!=0)||(fals"
            + "e==false);}return E::C(token(4),new S{t:token(5),a:7});}",
            new int[] {4, 314, 60, 0, 0, 0}, "");
        row(16, 200, new long[] {},
            "struct S{a:int,t:token}struct T{s:S,b:box int,n:int}struct U{x:bool,K:box S}enum E{A,B(int),C(token,S)}enum "
            + "L{N,K(int,box L)}fn main(){box E::B(read);let mut c:box int=(1%2);}",
            new int[] {4, 168, 200, 0, 0, 0}, "");
        row(60, 60, new long[] {1, 0, 0, 1, 0, 1},
            SHAPES
            + "fn main(){let mut v4=box f1(new T{b:box 1,n:1,s:new S{t:token(2),a:3}});let mut v5= &mut v4;let mut v6= &mut"
            + "**v5;print(false&&true)&&(!(read==0));}fn f0<'b>(p0:U,p1: &'b int,p2:token)->box int{let mut f=p0;return f0("
            + "p0,&*p1,token(1));}fn f1(p0:T)->int{let mut v2=box f1(p0);print false||(!false);let mut v4= &p0.s;&mut*p0.b;"
            + "return*p0.b;}",
            new int[] {4, 443, 60, 0, 0, 6}, "");
        row(20, 12, new long[] {1, 1},
            SHAPES
            + "fn f0(p0: &mut E)-> &mut E{return f0(p0);}fn f1()->token{let mut v1=L::N;match&v1{N=>{while read!=0{print 7;"
            + "f1();}v1=v1;return f1();}K(v2,v3)=>{let v4=v3;let mut v5:box S=box(new S{a:*v2,t:token(1)});}}v1=L::N;return"
            + " f1();}fn f2(p0: &U,p1: &mut U)->E{return f2(&mut*p0,p1);return f2(p0,p1);}fn main(){let mut v6=new S{t:toke"
            + "n(2),a:3%0};2;v6=new S{a:7-v6.a,t:v6.t};let v7=true!=true;let b= &v6;}",
            new int[] {4, 390, 12, 0, 0, 2}, "");
        row(20, 60, new long[] {0, 0},
            SHAPES
            + "fn main(){print 7%read;new T{s:new S{a:0,t:token(2)},n:0/read,b:box 1};let mut v2:int;let mut v3;while read="
            + "=0{match f1(){C(v4,v5)=>{}B(v6)=>{v3=new U{x:true,y:box new S{t:token(3),a:v6}};let h: &int;let mut v8: &mut"
            + " box S;}A=>{let mut v9;}}if v2<v2{}else{}let v10= &mut v2;}return;if false==(read==0){v2=v2;v3= &mut v2;}els"
            + "e{return;while v2>=3{print v2;let mut v11= &v2;}}match L::N{K(v12,v13)=>{if 0==v2{print v2;}else{}}N=>{print"
            + " v2;}}&mut v2;}fn f0<'a>(p0: &'a mut int,p1:E)->T{return new T{s:new S{a:*p0,t:token(1)},b:box*p0,n:3**p0};}"
            + "fn f1()->E{let v1=true;print 1%1;print(7%2)/(2-1);return f1();}",
            new int[] {4, 437, 60, 0, 0, 2}, "");
        row(60, 60, new long[] {2, 1, 2, 0},
            SHAPES
            + "fn f0(p0: &T)-> &T{return p0;}fn f1(p0: &bool)->int{print f1(p0);let v1=p0;if*p0{}else{}let mut v2=new U{x:("
            + "read==0)&&(read!=0),y:new S{a:3,t:token(1)}};return read;}fn main(){let mut f1: &int=7;v3=v3;let v4;if false"
            + "!=(read!=0){let mut h=box new S{t:token(2),a:v3};v4= &*h;}else{match E::A{A=>{print v3;}B(e)=>{}C(b,v8)=>{le"
            + "t mut v9= &v8.t;let mut v10= &b;print v8.a;}}let mut e:box box token=box box token(3);}v4=new U{y:box new S{"
            + "a:0,t:token(4)},x:!(read==0)};match E::A{C(v12,v13)=>{}A=>{return;v3=v3;let v14: &bool;}B(v15)=>{v3=v3;v3=v3"
            + ";}}print v3;v3=f1(&v4.x);}",
            new int[] {4, 255, 60, 0, 0, 4}, "");
        row(20, 12, new long[] {-3},
            SHAPES
            + "fn f0<'b>(p0: &mut token,p1: &'b int,p2:E)->box box token{return box box token(1);}fn f1()->U{return f1();le"
            + "t mut v1=box new S{a:7,t:token(0)};let mut v2:token=token(3);return f1();}fn f2<'b>(p0: &'b mut int,p1:box E"
            + ")-> &'b mut int{let mut v3=2;let mut v4;match*p1{C(v5,v6)=>{if v3>v3{let mut v7:E;print v3;&*p1;}{*p0=*p0;le"
            + "t v8=7;let v9= &mut*p1;}}B(v10)=>{match L::K(v10,box L::N){K(v11,v12)=>{let mut v13= &v11;print v3;}N=>{}}}A"
            + "=>{v3=7;}}return&mut*p0;}fn main(){print read;print 7;print 7;}",
            new int[] {4, 468, 12, 0, 0, 1}, "");
        row(16, 12, new long[] {0, -3, 2},
            SHAPES
            + "fn main(){print 7;print read;let mut j=box box token(1);*j=*box token(0);let mut v2= &*j;*j=*box j;}fn f0<'b"
            + ">(p0: &'b L,p1: &'b mut E)-> &'b L{return p0;}",
            new int[] {4, 184, 12, 0, 0, 3}, "");
        row(60, 12, new long[] {},
            SHAPES
            + "fn f0(p0: &mut L,p1: &mut T){p0= &mut*p0;}fn f1()->E{while read!=0{print 3;if f2(token(2)){print 7;let v1:in"
            + "t=read;}}let mut v2:int;v2=7;return f1();}fn f2(p0:token)->bool{let mut v3: &token;print 0;v3=v3;v3= &p0;ret"
            + "urn f2(token(3));}fn main(){print 3;let mut v4;let v5=new U{x:f2(token(4)),y:box new S{a:3,t:token(5)}};let "
            + "mut i;match L::N{K(d,v8)=>{}N=>{let mut v9: &U;}}v4= &mut(*v5.y).t;(*v5.y).t=token(6);let v10:box box token;"
            + "let mut v11=((*v5.y).a)/(-((*v5.y).a));}",
            new int[] {4, 506, 12, 0, 0, 0}, "");
        row(20, 12, new long[] {1, 0, 1, 0, 1},
            SHAPES
            + "fn f0<'b>(p0: &T,p1:S,p2: &'b mut E)-> &int{let mut v1=p1.t;return p0;}fn f1()->L{{let mut v2=1;v2=-(v2%v2);"
            + "}let mut i=7;return f1();}fn f2<'b>(p0:int,p1: &'b mut bool,p2: &'b bool)->S{print p0;let mut v4:int=p0;if*p"
            + "1{let mut v5= &p0;v5=v5;return f2(p0,p1,p2);}else{v4=v4;}return f2(p0,p1,&*p2);}fn main(){print 2;let v6=tok"
            + "en(1);print-3;print 1<(-1);}",
            new int[] {4, 192, 12, 0, 0, 5}, "");
        row(20, 60, new long[] {0, 0, -3, 0, 0},
            REFERENCES
            + "q0=&x;q1=&y;r1=&mut v;*b=*s.b;q1=q0;*s.b=read;while read==0{r1=&mut *r0;}q1=&s.a;r0=&mut y;}",
            new int[] {5, 625, 60, 0, 0, 5}, "");
        row(60, 12, new long[] {2, -3, 1, 2, 0},
            REFERENCES
            + "q0=&x;q1=&y;r0=&mut u;r1=&mut v;while read==0{q0=sh(&x,q0);}print *q1;r1=mu(ml(r0,&mut *r0));print *b;}",
            new int[] {5, 644, 12, 0, 0, 5}, "");
        row(60, 12, new long[] {2, 0, -3},
            SHAPES
            + "fn f0<'b>(p0:&'b L)->&'b L{print 3/7;print 2;print 1/read;return p0;}fn f1(p0:&mut token,p1:int)->int{let mu"
            + "t v1=&p1;let v2=v1;let mut v3=box box token(1);let v4=&*v3;return p1;}fn f2(p0:box E,p1:&mut box E)->int{**p"
            + "1=*p0;return (1+2)%(f2(box *p0,&mut *p1));match & mut **p1{A=>{**p1=E::C(token(2),new S{a:read,t:token(3)});"
            + "&**p1;}C(v5,v6)=>{print (*v6).a;if true==(read==0){(*v6).t=token(f1(&mut (*v6).t,(*v6).a));}else{}}B(v7)=>{l"
            + "et mut v8=&**p1;}}return f2(p0,&mut *p1);return f2(p0,&mut *p1);}fn main(){let mut v9:U;let v10:E=E::B(f1(&m"
            + "ut (*v9.y).t,(*v9.y).a));let mut v11=&*v9.y;v9.y=v9.y;v9=v9;let v12=*v9.y;if !false{print v9.x;v11;}*v9.y=v1"
            + "2;}",
            new int[] {5, 368, 12, 0, 0, 3}, "");
        row(16, 12, new long[] {0, 1},
            SHAPES
            + "fn f0<'a>(p0:&'a int)->box S{print *p0*(-1);return f0(&*p0);print *p0+*p0;print *p0;return box (new S{a:*p0,"
            + "t:token(1)});}fn f1(p0:int,p1:&mut token,p2:&mut U)->int{&p0;let mut v1:&mut box S=&mut (*p2).y;let mut g=(*"
            + "*v1).a;return p0;}fn f2<'b>(p0:&mut S,p1:box box token,p2:&'b mut box S){L::N;(*p0).a=0;print true&&true;(**"
            + "p2).t=token(2);}fn main(){let mut v3=box new S{a:2,t:token(3)};if !(read==0){}else{}let mut v4=&(*v3).a;whil"
            + "e read!=0{(*v3).a=(*v3).a;match E::C(token(4),*v3){B(v5)=>{print read;print v5;}A=>{print *v4;let mut v6=L::"
            + "N;}C(v7,v8)=>{}}}let mut v9:&S;let mut v10=&mut (*v3).t;let mut v11:L=L::N;(*v3).t=token(5);}",
            new int[] {5, 567, 12, 0, 0, 2}, "");
        row(60, 200, new long[] {},
            SHAPES
            + "fn f0(p0: &mut int)->E{print*p0;let mut v1: &mut int;let v2=p0;return f0(&mut*p0);}fn f1()->int{return f1()+"
            + "(0-0);}fn main(){print f1();if(read!=0)&&true{L::K(f1(),box L::N);let mut v3=((read==0)&&(read!=0))&&(1<=2);"
            + "}match L::K(0,box L::N){K(h,v5)=>{print h;}N=>{print f1();}}print f1();let mut v6=box box token(1);v6=box*v6"
            + ";v6=box*v6;if false&&(read!=0){}}",
            new int[] {5, 202, 200, 0, 0, 0}, "");
        row(20, 12, new long[] {0, 1, 2, 2, -3},
            SHAPES
            + "fn f0(p0:box E){if false{}let mut v1=box new S{t:token(1),a:1};print false;}fn f1<'a>(p0:box int,p1:&'a int)"
            + "->int{let mut v2:box box token=box box token(2);let mut v3=&*v2;let v4=new S{a:f1(p0,&*p0),t:token(*p1)};let"
            + " j;return *p1;}fn f2()->box S{match E::A{C(v6,v7)=>{let mut v8:&token=&v6;v8=v8;}B(v9)=>{let mut v10=v9;v10="
            + "f1(box v10,&v9);let mut v11=false;}A=>{let mut v12:token=token(4);}}print 1*read;let v13:int;print f1(box 2,"
            + "&v13);return f2();}fn main(){let mut v14:E=E::A;E::A;}",
            new int[] {5, 319, 12, 0, 0, 5}, "");
        row(60, 60, new long[] {0, 1, 1, 2, 2},
            SHAPES
            + "fn main(){print 3;print 3;print read;print 7-read;while read!=0{match E::C(token(1),new S{a:0,t:token(2)}){C"
            + "(v3,v4)=>{1;print v4.a;v4.a/7;}B(v5)=>{let mut i=&v5;let mut b=box new S{t:token(3),a:v5};}A=>{}}let v8=box "
            + "new S{a:1,t:token(4)};}let mut v9=token(5);let v10=&mut v9;}fn f0(p0:int){let mut v1:&int;let v2=v1;}",
            new int[] {5, 438, 60, 0, 0, 5}, "");
        row(60, 60, new long[] {2, 0, 0},
            REFERENCES
            + "r0=&mut u;r1=&mut v;x=read;q1=&*q0;print *r0;print x;q1=sl(&*b,q0);print *r0;r0=&mut y;r1=&mut s.a;}",
            new int[] {5, 588, 60, 0, 0, 3}, "");
        row(60, 60, new long[] {-3, 0, 1, 0, -3},
            REFERENCES
            + "q0=&x;q1=&y;r0=&mut u;r1=&mut v;s.a=1;q1=&y;print s.a;r1=es(&mut e);match &mut e{N=>{{let z=1;let mut w=2;x="
            + "read;print *r0;r0=ml(mu(r0),r1);print *r0;*s.b=1;q0=q1;q1=q0;}print y;}V(c,d)=>{b=box 1;r0=c;}}if read==0{*r"
            + "1=*r1;r1=mu(&mut s.a);s.b=box 2;}}",
            new int[] {5, 771, 60, 0, 0, 5}, "");
        row(16, 200, new long[] {-3, 0, -3, -3, 1},
            SHAPES
            + "fn f0<'a,'b>(p0:&'b mut box S,p1:&'a mut bool)->&'b mut box S{return f0(f0(p0,p1),p1);}fn f1(p0:int,p1:&box "
            + "E,p2:E){let mut v1:&int=&p0;let v2=token(1);{let e=&v2;}let mut v4:token=token(2);}fn f2()->box box token{pr"
            + "int read;box E::B(1);return f2();}fn main(){while read!=0{let mut f=-3;}L::N;print 7*read;match E::B(2){A=>{"
            + "}C(v6,v7)=>{&v7.t;print !(read!=0);}B(i)=>{}}print read-1;let g;let mut v10=new T{b:box 2,n:3*2,s:new S{t:to"
            + "ken(3),a:read}};}",
            new int[] {5, 207, 200, 0, 0, 5}, "");
        row(60, 12, new long[] {2},
            SHAPES
            + "fn f0(p0:&box box token,p1:&mut token)->&mut token{let v1=p0;*p1=token(2);if 3<=3{*p1=token(7);let v2=&***v1"
            + ";*p1=token(2);}else if 0<=1{new U{x:2!=2,y:box new S{t:token(read),a:read}};p1;}else{let mut v3=&*v1;let mut"
            + " d=p0;}match E::C(token(5),new S{a:2,t:token(6)}){A=>{}C(v5,e)=>{*p1=token(7);}B(v7)=>{match L::K(v7,box L::"
            + "N){N=>{let mut v8;print v7;let mut v9=&v7;}K(v10,v11)=>{}}}}return p1;}fn f1(p0:T)->box S{while false{print "
            + "0/p0.n;let mut v12=&p0.b;v12=&*v12;}print 7;return f1(p0);}fn f2<'a>(p0:&'a E,p1:box box token){print 7-(3-1"
            + ");let mut v13:&box token=&*p1;}fn main(){let mut v14:box box token;let v15;let mut v16;let mut v17=&mut v14;"
            + "v15=&*v14;return;print (3>3)||(1<=7);print 1>1;}",
            new int[] {5, 406, 12, 0, 0, 1}, "");
        row(16, 12, new long[] {0},
            SHAPES
            + "fn f0<'b>(p0:&'b mut int)->&'b mut int{let mut v1:S;let mut v2:int;return &mut *p0;}fn f1(p0:box int)->box E"
            + "{E::B(*p0);return f1(p0);}fn f2(p0:token)->token{print read-read;print 2*0;print 7;return p0;}fn main(){let "
            + "v3:E=E::B(3);match v3{C(v4,v5)=>{let mut v6:&int=&v5.a;let mut v7:U=new U{y:box v5,x:true&&true};}A=>{print "
            + "-0;print 1-1;let mut v8=box E::A;}B(d)=>{if !false{print 7;v3;}let mut v10=E::C(f2(token(1)),new S{t:token(2"
            + "),a:read});while read!=0{v10=E::C(token(d),new S{a:d,t:token(4)});}}}}",
            new int[] {5, 508, 12, 0, 0, 1}, "");
        row(20, 12, new long[] {1},
            SHAPES
            + "fn f0()->box box token{let mut v1;let mut v2=read;if 0==7{let mut v3=&mut v2;}v1=&mut v2;return f0();}fn mai"
            + "n(){print 2/1;let mut v4:int=7;let v5:int;if 3<7{}else{match E::C(token(1),new S{t:token(2),a:3}){C(v6,v7)=>"
            + "{}B(v8)=>{let mut v9:&mut int;print *v9;}A=>{print v4-v4;let mut v10=&v4;print *v10;}}match E::B(3){C(v11,v1"
            + "2)=>{let mut v13:&token;print v12.a;}B(c)=>{v4=v5;}A=>{v4=v5+v4;}}let mut v15=&v5;}while !false{let mut v16:"
            + "int;print v16;print v4;}while read!=0{if false{let mut v17=E::A;}else{print v4*v5;print v4;}}let mut v18=&v5"
            + ";}",
            new int[] {5, 377, 12, 0, 0, 1}, "");
    }

    private static void rows5() {
        row(20, 60, new long[] {0, 0, 1, 2, 1, 0},
            SHAPES
            + "fn main(){print 1/read;let mut v1=L::K(3+7,box L::N);let mut v2: &mut L;v1=v1;let mut v2: &mut L;v1=v1;if re"
            + "ad>1{*v2=v1;}else if 3>0{let mut v3=v2;*v3=v1;*v3=v1;}}",
            new int[] {5, 238, 60, 0, 0, 6}, "");
        row(60, 200, new long[] {2},
            REFERENCES
            + "q0=&x;q1=&y;r0=&mut u;{let z=1;let mut w=2;y=*r1;}if read==0{{let z=1;let mut w=2;print *s.b;s.b=box 2;q0=sh"
            + "(q1,sh(&*r0,&x));}}match &e{N=>{q0=&*q1;}V(c,d)=>{x=read;q0=c;}}q0=&*s.b;}",
            new int[] {5, 602, 200, 0, 0, 1}, "");
        row(16, 12, new long[] {2, -3},
            REFERENCES
            + "q1=&y;r0=&mut u;r1=&mut v;*r0=read;print *s.b;match &mut e{N=>{r1=&mut x;print *r1;q0=q1;}V(c,d)=>{while rea"
            + "d==0{print s.a;y=1;q1=&y;print *r0;}q1=&x;r1=r1;print *d;}}if read==0{print *q1;x=*q0;}else{print *r1;}q0=q1"
            + ";print *r0;s.a=read;}",
            new int[] {5, 747, 12, 0, 0, 2}, "");
        row(20, 60, new long[] {0, 1, 0, 0, 0},
            REFERENCES
            + "q0=&x;q1=&y;r0=&mut u;if read==0{if read==0{q1=q1;}else{print x;e=E::N;print *q1;q0=&*q1;}r0=r1;r1=r1;}else{"
            + "if read==0{q0=&*q0;s.a=*b;print *r1;}else{q0=q1;print *q1;}}print s.a;}",
            new int[] {5, 650, 60, 0, 0, 5}, "");
        row(20, 60, new long[] {0, 0},
            SHAPES
            + "fn main(){let mut v1=token(1);let v2:&token=&v1;let mut v3=box (-3);{}v1=v1;match E::C(v1,new S{a:read,t:tok"
            + "en(2)}){B(v4)=>{let mut j=&mut *v3;v3=v3;return;}C(v6,v7)=>{*v3=*v3%*v3;{print v7.a;}}A=>{return;match L::K("
            + "*v3,box L::N){N=>{&mut *v3;}K(v8,v9)=>{print *v3;*v3=1;}}}}while read==0{print *v3;print *v3;if *v3==0{print"
            + " *v3;print *v3;print 1;}else if false||true{v1=v1;*v3=7;}else{let mut v10=v1;print *v3;box (new S{t:v1,a:*v3"
            + "});}}v3=box *v3;}",
            new int[] {5, 496, 60, 0, 0, 2}, "");
        row(60, 60, new long[] {0, 0, 0, 0},
            REFERENCES
            + "q1=&y;r1=&mut v;r1=mu(r1);while read==0{r0=&mut x;}print y;print s.a;if read==0{print *s.b;x=1;}else{x=1;pri"
            + "nt *q1;q1=sh(sl(&*r0,&*q1),&s.a);}*s.b=read;r0=&mut s.a;q1=&*q1;}",
            new int[] {5, 682, 60, 0, 0, 4}, "");
        row(60, 12, new long[] {0, 1, -3, 0, 0, 0},
            REFERENCES
            + "q0=&x;q1=&y;r1=&mut v;print *q0;*r0=read;r0=&mut *s.b;}",
            new int[] {5, 589, 12, 0, 0, 6}, "");
        row(16, 12, new long[] {2},
            REFERENCES
            + "q1=&y;r0=&mut u;r1=&mut v;print s.a;{let z=1;let mut w=2;r0=&mut x;if read==0{s.a=y;s.b=box 2;}else{print x;"
            + "r1=&mut *r1;print s.a;q0=q0;}*s.b=*q0;}r0=r0;match &e{N=>{q1=&*b;print *q0;}V(c,d)=>{q0=&*b;print *q0;q0=sh("
            + "&*q1,q0);r0=&mut s.a;q0=c;}}{let z=1;let mut w=2;q0=&x;if read==0{r1=&mut *b;r0=mu(&mut x);}use2(&mut *r0,y)"
            + ";print *q1;q0=&z;}}",
            new int[] {5, 690, 12, 0, 0, 1}, "");
        row(60, 60, new long[] {-3, -3, 1, 0, 0},
            SHAPES
            + "fn f0<'a>(p0:&'a L,p1:&int,p2:U){let mut v1:&bool=&p2.x;while read!=0{match & *p0{K(v2,v3)=>{print 0;}N=>{}}"
            + "}let mut v4:&token;v4=&*v4;}fn f1(p0:int,p1:&box box token,p2:int)->&box box token{let v5:int;let v6=p1;retu"
            + "rn p1;}fn main(){(7%3)/(-read);print 7+read;print 7>1;print 0;3;print 1;}",
            new int[] {5, 256, 60, 0, 0, 5}, "");
        row(20, 60, new long[] {0, 2},
            REFERENCES
            + "q0=&x;r0=&mut u;r1=&mut v;q0=&*q1;match &e{N=>{print *r1;while read==0{q0=&*q1;}y=1;}V(c,d)=>{q0=&*q0;if rea"
            + "d==0{q1=q0;}r1=&mut *r1;match &e{N=>{r1=&mut x;}V(c,d)=>{q0=sh(q0,sl(&*r1,&*q1));q1=&*d;}}q1=&*d;}}}",
            new int[] {5, 587, 60, 0, 0, 2}, "");
        row(60, 12, new long[] {0, 0},
            SHAPES
            + "fn f0(p0:L,p1:E)->box box token{print f1();return f0(p0,p1);}fn f1()->int{let mut v1=box E::C(token(1),new S"
            + "{t:token(2),a:3});let mut v2:box int;*v2=read;return f2(E::A);}fn f2(p0:E)->int{return 3;}fn main(){{while r"
            + "ead!=0{print f1();new S{a:f2(E::A),t:token(3)};print f2(E::A)/f2(E::A);}let v3:int;}print f2(E::B(1));let v4"
            + "=E::C(token(4),new S{a:1,t:token(5)});}",
            new int[] {5, 270, 12, 0, 0, 2}, "");
        row(20, 12, new long[] {1, -3, 2, 2, 1, 1},
            REFERENCES
            + "q0=&x;q1=&y;if read==0{if read==0{print *q1;r1=mu(&mut *r0);}else{print *r1;print x;}match &mut e{N=>{*s.b=r"
            + "ead;}V(c,d)=>{print *q0;q1=&*r1;print *d;}}}{let z=1;let mut w=2;print *b;print *r0;}print *s.b;print *q1;q0"
            + "=sl(&*q1,q1);r1=&mut *r0;q1=&x;}",
            new int[] {5, 612, 12, 0, 0, 6}, "");
        row(60, 60, new long[] {1},
            SHAPES
            + "fn f0<'b>(p0:&mut S,p1:&'b box box token)->int{let mut v1=new U{y:box new S{a:1,t:token(1)},x:read!=0};retur"
            + "n read;}fn main(){if 7>1{2!=0;match L::K(3,box L::N){N=>{print 0%1;let mut v2=2;print 7;}K(v3,v4)=>{print v3"
            + ";print v3;print v3;}}print 2>0;}else{if true!=false{print 1;print 7;print 7;}else if (read!=0)||(read==0){le"
            + "t v5:int=1;let v6=&v5;}else{let mut v7=((read==0)||(read==0))!=(read==0);v7=v7;}let mut v8=new T{b:box 3,s:n"
            + "ew S{a:0,t:token(2)},n:read};*v8.b=3;}let mut g=2;E::A;if true{let mut v10=E::C(token(3),new S{t:token(3),a:"
            + "g});}else{box E::C(token(5),new S{a:g,t:token(6)});}let v11:&mut int;let mut v12=v11;let mut v13=&mut g;}",
            new int[] {5, 746, 60, 0, 0, 1}, "");
        row(20, 12, new long[] {0, 1, 2},
            REFERENCES
            + "q1=&y;r1=&mut v;r0=r1;if read==0{if read==0{y=*q0;print *r0;print *q1;}print *q0;r1=&mut x;match &mut e{N=>{"
            + "*r0=*q0;*r0=1;print y;print *q1;}V(c,d)=>{q1=sh(q0,&x);r1=&mut y;print *r1;}}}}",
            new int[] {5, 603, 12, 0, 0, 3}, "");
        row(60, 200, new long[] {1, 0, 0, 0},
            REFERENCES
            + "q1=&y;r0=&mut u;r1=&mut v;print x;q1=sh(q0,&x);print *r1;}",
            new int[] {5, 597, 200, 0, 0, 4}, "");
        row(60, 12, new long[] {0, 0, 2},
            REFERENCES
            + "q1=&y;s=ns();x=1;print y;r1=&mut x;*r1=1;if read==0{r0=ml(mu(&mut *s.b),&mut *r0);x=*q1;q1=&*r1;q0=sh(&y,&*q"
            + "1);}else{r1=&mut *r0;q1=&*q0;}}",
            new int[] {5, 634, 12, 0, 0, 3}, "");
        row(16, 200, new long[] {},
            SHAPES
            + "fn main(){let mut v2=((read==0)||(read==0))&&((read!=0)!=(read==0));let v3=&v2;let mut v4=v3;}fn f0(p0:E)->E"
            + "{return p0;}fn f1<'a>(p0:token,p1:&'a mut int)->int{*p1=*p1;*p1=*p1;&p0;print 2;return 2+(-*p1);}fn f2(p0:bo"
            + "x S,p1:E)->token{let mut f:&E;f=f;print -read;return f2(p0,E::A);}",
            new int[] {5, 373, 200, 0, 0, 0}, "");
        row(16, 12, new long[] {0, 1, 1, 0, -3, -3},
            REFERENCES
            + "q0=&x;q1=&y;r0=&mut u;r1=&mut v;if read==0{r0=mu(&mut y);}else{r1=&mut *b;}y=read;q1=&*q1;q1=&*r0;r0=ml(&mut"
            + " x,&mut *b);r1=&mut s.a;r1=&mut s.a;match &mut e{N=>{s.a=read;match &e{N=>{print *s.b;q0=sl(&*q0,&s.a);}V(c,"
            + "d)=>{print y;q1=q0;}}print *r0;*b=1;}V(c,d)=>{print x;while read==0{r0=&mut s.a;}}}}",
            new int[] {6, 611, 12, 0, 0, 6}, "");
        row(60, 60, new long[] {0, 0, 0, 1},
            REFERENCES
            + "q0=&x;q1=&y;r0=&mut u;r1=&mut v;q1=q1;q1=&s.a;match &e{N=>{match &e{N=>{*r1=*s.b;q1=q0;}V(c,d)=>{y=y;q1=&*q1"
            + ";r1=&mut *s.b;print s.a;}}let t=b;b=t;r0=&mut *b;}V(c,d)=>{r0=&mut s.a;s.a=1;q0=&*q1;if read==0{print *q1;pr"
            + "int y;print *r1;}print *c;}}q0=&*q0;r0=mu(ml(es(&mut e),es(&mut e)));}",
            new int[] {6, 732, 60, 0, 0, 4}, "");
        row(60, 12, new long[] {},
            REFERENCES
            + "q0=&x;q1=&y;r0=&mut u;r1=&mut v;r0=&mut y;q0=&*b;q0=q1;r1=ml(mu(&mut x),r1);if read==0{q1=q0;}else{q0=&*b;r1"
            + "=mu(r1);if read==0{*r0=1;print *r0;print *r1;s.a=*s.b;}r1=mu(mu(&mut *b));}*s.b=read;x=1;}",
            new int[] {6, 597, 12, 0, 0, 0}, "");
        row(20, 12, new long[] {0, 0, 1, -3, 1, 0},
            REFERENCES
            + "q0=&x;q1=&y;r0=&mut u;r1=&mut v;if read==0{y=read;}if read==0{y=read;if read==0{print *b;print y;r0=&mut y;p"
            + "rint *q1;}}s.a=*s.b;print s.a;print s.a;}",
            new int[] {6, 600, 12, 0, 0, 6}, "");
        row(60, 60, new long[] {2, 0, 0, -3, 1},
            REFERENCES
            + "q0=&x;q1=&y;r0=&mut u;r1=&mut v;r0=&mut y;match &e{N=>{q1=q1;{let z=1;let mut w=2;*r0=*q0;print *b;}}V(c,d)="
            + ">{q1=&*q1;q0=sl(&*s.b,&*q0);print *c;}}}",
            new int[] {6, 597, 60, 0, 0, 5}, "");
        row(16, 12, new long[] {1, 2},
            REFERENCES
            + "q0=&x;q1=&y;r0=&mut u;r1=&mut v;r0=&mut x;{let z=1;let mut w=2;r1=&mut x;print x;r1=r1;match &mut e{N=>{r1=&"
            + "mut s.a;print *s.b;*r0=y;}V(c,d)=>{print *r1;*c=1;}}}*r0=1;{let z=1;let mut w=2;r0=&mut *s.b;r1=ml(&mut *r0,"
            + "mu(&mut x));*r1=*b;}q0=sl(sl(&*q0,q0),&x);}",
            new int[] {6, 597, 12, 0, 0, 2}, "");
        row(60, 60, new long[] {1, 0, 1, 0, 2, -3},
            REFERENCES
            + "q0=&x;q1=&y;r0=&mut u;r1=&mut v;y=read;print *q1;*s.b=1;q0=&y;}",
            new int[] {6, 589, 60, 0, 0, 6}, "");
        row(16, 12, new long[] {-3, 0, 1, 1, -3},
            REFERENCES
            + "q0=&x;r0=&mut u;r1=&mut v;r1=&mut x;q0=&*q0;}",
            new int[] {6, 591, 12, 0, 0, 5}, "");
    }

    private static void rows6() {
        row(20, 12, new long[] {-3, 1},
            SHAPES
            + "fn main(){let mut v1=-(2%1);if false{v1=(7*v1)/v1;match E::C(token(1),new S{t:token(2),a:3}){C(v2,v3)=>{let "
            + "v4=&v3;}A=>{print -v1;print -v1;v1=v1;}B(v5)=>{let mut v6=&v1;}}v1=0;}else{}let mut v7=&v1;match L::K(read,b"
            + "ox L::N){K(v8,d)=>{let mut v10=&v8;print v8!=*v10;v1=*v10%v8;}N=>{match E::C(token(3),new S{a:v1,t:token(4)}"
            + "){B(v11)=>{print v1;let mut v12=v1;print v12;}A=>{let mut v13=&mut v1;}C(v14,b)=>{let mut v16=&v14;print 0;v"
            + "16;}}}}if read==0{}else{let v17:E=E::B(*v7);}let mut v18=*v7>*v7;}",
            new int[] {6, 391, 12, 0, 0, 2}, "");
        row(60, 200, new long[] {-3, 0, 0, 0, 1},
            SHAPES
            + "fn main(){let v1=new S{t:token(1),a:7%7};print v1.a<v1.a;print v1.a;let mut v2=E::C(token(2),new S{a:v1.a,t:"
            + "v1.t});&v1.a;match & v2{A=>{v2=E::A;let mut v3=v1.a;v3=3;}C(v4,v5)=>{v2=E::A;let mut v6=v4;let mut v7=&(*v5)"
            + ".a;}B(v8)=>{v2=v2;let mut v9=v1.a;}}return;v2=E::B(v1.a);while read!=0{let mut v10=&v2;v10=&v2;let mut v11=&"
            + "v1.t;}}",
            new int[] {6, 302, 200, 0, 0, 5}, "");
        row(20, 200, new long[] {-3, -3, 1, 1},
            SHAPES
            + "fn main(){match E::C(token(2),new S{a:7,t:token(5)}){C(v7,d)=>{}A=>{}B(v9)=>{let mut v10=box E::B(v9);let mu"
            + "t v11=*v10;&mut v11;}}let mut v12=E::B(3/2);v12=E::B(7*2);token(6);v12=v12;let mut v13=&mut v12;}fn f0<'b>(p"
            + "0:&'b mut box S,p1:&int,p2:&'b int)->int{(**p0).t=token(1);match f2(*p2,p2,&mut (**p0).a){A=>{let mut v1:E=f"
            + "2(*p2,&*p1,&mut (**p0).a);}B(v2)=>{}C(v3,v4)=>{(**p0).t=token(2);}}print (read==0)!=(read==0);**p0=new S{a:f"
            + "0(&mut *p0,&(**p0).a,p1),t:token(3)};return f0(p0,&*p2,p1);}fn f1(p0:int){}fn f2(p0:int,p1:&int,p2:&mut int)"
            + "->E{p2;let mut v5=&*p2;let mut v6=&*v5;return f2(1,p1,p2);}",
            new int[] {6, 569, 200, 0, 0, 4}, "");
        row(16, 60, new long[] {2, 0, -3},
            REFERENCES
            + "q0=&x;q1=&y;r0=&mut u;r1=&mut v;q1=&*r0;while read==0{q1=&*r1;{let z=1;let mut w=2;print s.a;q0=&z;}r1=&mut "
            + "y;match &e{N=>{print y;print s.a;*r1=read;}V(c,d)=>{*r1=read;print x;print *c;}}}if read==0{print y;{let z=1"
            + ";let mut w=2;r0=&mut x;r0=&mut w;}}r1=mu(&mut *b);print *b;}",
            new int[] {6, 686, 60, 0, 0, 3}, "");
        row(20, 12, new long[] {},
            REFERENCES
            + "q0=&x;q1=&y;r0=&mut u;r1=&mut v;while read==0{while read==0{*b=*r0;q0=sl(q0,&*q0);*r0=*q0;}}b=box 1;if read="
            + "=0{q0=&s.a;if read==0{print *r1;print *q1;r1=mu(&mut s.a);}}else{b=box 1;q0=&*r1;r0=&mut y;r1=mu(&mut *r1);}"
            + "print y;r1=&mut *r1;print *q1;}",
            new int[] {6, 754, 12, 0, 0, 0}, "");
        row(16, 200, new long[] {-3, -3, 0, 1, 1, 0},
            REFERENCES
            + "q1=&y;r0=&mut u;r1=&mut v;print x;r1=&mut x;while read==0{print *r0;}q0=&*s.b;q0=&*b;print x;r0=mu(mu(&mut y"
            + "));r0=&mut *r1;}",
            new int[] {6, 648, 200, 0, 0, 6}, "");
        row(60, 60, new long[] {2, 1, 2, 0, -3},
            REFERENCES
            + "q0=&x;q1=&y;r0=&mut u;r1=&mut v;print s.a;print *q1;print *q1;while read==0{print *r1;if read==0{r0=&mut x;p"
            + "rint *q1;}else{print s.a;}}q1=q0;*r1=*r0;}",
            new int[] {6, 662, 60, 0, 0, 5}, "");
        row(60, 12, new long[] {0, 0, 0, 0, 2},
            REFERENCES
            + "q0=&x;q1=&y;r0=&mut u;r1=&mut v;if read==0{q0=q0;*b=1;}print s.a;match &mut e{N=>{r1=r1;print *r1;}V(c,d)=>{"
            + "x=1;{let z=1;let mut w=2;print x;x=*q1;print *r0;q0=&*q1;r0=&mut w;}if read==0{q0=&*r1;q1=&*q1;}let t=b;b=t;"
            + "}}r1=&mut *r0;print *r0;q1=&*r0;{let z=1;let mut w=2;s.a=1;}}",
            new int[] {6, 732, 12, 0, 0, 5}, "");
        row(20, 60, new long[] {-3},
            REFERENCES
            + "q0=&x;q1=&y;r0=&mut u;r1=&mut v;r0=&mut x;*r0=read;*b=read;print *b;match &mut e{N=>{while read==0{r1=&mut *"
            + "s.b;print y;}*s.b=read;print x;r1=&mut *r1;}V(c,d)=>{b=box 1;r1=&mut *r1;*s.b=read;r1=d;}}q0=sl(sl(q1,&s.a),"
            + "&*b);q0=&x;q1=sh(&s.a,q1);}",
            new int[] {6, 678, 60, 0, 0, 1}, "");
        row(20, 200, new long[] {1, 1},
            REFERENCES
            + "q0=&x;q1=&y;r0=&mut u;r1=&mut v;match &e{N=>{x=read;q0=&*s.b;}V(c,d)=>{r0=&mut x;q0=&y;q0=c;}}r0=es(&mut e);"
            + "y=read;print *q0;match &e{N=>{while read==0{print *q1;q1=&*b;s=ns();}}V(c,d)=>{print *s.b;if read==0{*b=read"
            + ";}print *c;}}}",
            new int[] {6, 662, 200, 0, 0, 2}, "");
        row(16, 200, new long[] {-3, 0},
            SHAPES
            + "fn main(){match E::C(token(1),new S{t:token(2),a:3}){B(v10)=>{if v10!=v10{let v11=&v10;}else{}}A=>{7;let mut"
            + " v12=new S{a:-0,t:token(3)};}C(v13,v14)=>{}}print read;let mut v15:token=token(4);}fn f0(p0:int,p1:box S,p2:"
            + "&bool)->U{let v1=&p1;return f0(p0,p1,p2);}fn f1(p0:&mut bool,p1:S){p1.a;let v2=&mut *p0;*v2=*p0;match E::A{A"
            + "=>{print p1.a;match L::K(3,box L::N){N=>{print 0;let mut v3=&p1.a;}K(v4,v5)=>{print v4;}}}C(v6,d)=>{let mut "
            + "v8=&p1;}B(c)=>{print true&&*p0;}}}fn f2()->box E{return f2();}",
            new int[] {6, 433, 200, 0, 0, 2}, "");
        row(20, 12, new long[] {0, -3, 0},
            REFERENCES
            + "q0=&x;q1=&y;r0=&mut u;r1=&mut v;r1=&mut x;{let z=1;let mut w=2;let t=s;s=t;r0=&mut *r0;print *s.b;if read==0"
            + "{print *b;}r0=&mut w;}while read==0{match &e{N=>{r0=&mut *r1;*s.b=*q0;r1=&mut x;}V(c,d)=>{print s.a;print *q"
            + "1;print *c;}}{let z=1;let mut w=2;q1=&s.a;print y;q0=&z;}}q0=&*q0;print s.a;}",
            new int[] {6, 597, 12, 0, 0, 3}, "");
        row(20, 200, new long[] {},
            REFERENCES
            + "q0=&x;q1=&y;r0=&mut u;r1=&mut v;s.a=1;print *s.b;match &mut e{N=>{while read==0{q1=sh(&s.a,sh(q1,&*b));y=1;}"
            + "while read==0{print *r0;q1=&*b;}r0=&mut s.a;}V(c,d)=>{r1=es(&mut e);if read==0{r1=ml(&mut x,&mut x);}else{pr"
            + "int x;r0=&mut s.a;}}}s.a=*q0;}",
            new int[] {6, 660, 200, 0, 0, 0}, "");
        row(16, 200, new long[] {2, -3, 1, 0, 2},
            REFERENCES
            + "q0=&x;q1=&y;r0=&mut u;r1=&mut v;q0=&*s.b;print *r1;r1=&mut y;print x;match &mut e{N=>{print *q1;q0=&*r0;{let"
            + " z=1;let mut w=2;print y;}return;}V(c,d)=>{print y;r1=&mut *b;print *d;}}}",
            new int[] {6, 616, 200, 0, 0, 5}, "");
        row(16, 60, new long[] {-3, 0},
            REFERENCES
            + "q0=&x;q1=&y;r0=&mut u;r1=&mut v;*r1=1;q1=sl(sh(&*r1,q1),&*q1);while read==0{r0=&mut *b;let t=s;s=t;r1=&mut *"
            + "r1;}q0=&*q1;x=read;}",
            new int[] {6, 664, 60, 0, 0, 2}, "");
        row(20, 12, new long[] {-3, -3, -3},
            SHAPES
            + "fn main(){let mut j=-(3%read);print 1;print 1;let mut v2: &mut int= &mut j;let mut v3=box E::B(j);if read==0"
            + "{while(read==0)==false{v2=v2;print-*(v2);let mut v6:int;}let mut v5: &mut int;}else{}return;let mut v6= &*v3"
            + ";}",
            new int[] {6, 220, 12, 0, 0, 3}, "");
        row(60, 60, new long[] {0},
            REFERENCES
            + "q0=&x;q1=&y;r0=&mut u;r1=&mut v;r0=&mut *b;*b=*q0;r1=mu(&mut *r0);r1=&mut x;q1=&y;match &mut e{N=>{q0=&*s.b;"
            + "}V(c,d)=>{q0=q1;match &e{N=>{*r1=read;use2(&mut x,x);q0=&*b;r0=r1;}V(c,d)=>{r0=&mut *s.b;print x;print *s.b;"
            + "q1=&*d;}}q1=q1;print *d;}}}",
            new int[] {6, 600, 60, 0, 0, 1}, "");
        row(16, 60, new long[] {0},
            REFERENCES
            + "q0=&x;q1=&y;r0=&mut u;x=read;*r0=y;q1=&*q0;q1=&y;if read==0{r1=&mut y;r0=&mut y;}}",
            new int[] {6, 579, 60, 0, 0, 1}, "");
        row(20, 60, new long[] {2, 0},
            REFERENCES
            + "q0=&x;r0=&mut u;r1=&mut v;print *b;if read==0{*r0=1;r1=&mut y;r0=&mut x;}x=y;match &e{N=>{print *r0;q1=sh(&*"
            + "r0,&*q0);}V(c,d)=>{e=E::N;q0=&*q0;r0=&mut *b;print *c;}}while read==0{x=*s.b;print *r1;print *q0;}print y;q1"
            + "=sh(q0,&*r0);if read==0{*r0=*r1;r0=&mut y;if read==0{let t=s;s=t;print x;}else{print *s.b;q0=q0;print *r1;}p"
            + "rint *q1;}}",
            new int[] {6, 627, 60, 0, 0, 2}, "");
        row(20, 60, new long[] {0, 2, 2, 2},
            REFERENCES
            + "q0=&x;q1=&y;r0=&mut u;r1=&mut v;let t=s;s=t;print *r1;{let z=1;let mut w=2;{let z=1;let mut w=2;q1=&*q1;r1=&"
            + "mut y;r0=&mut w;}if read==0{let t=s;s=t;r1=r0;e=E::N;print *b;}q0=&*r1;r0=&mut *s.b;}r0=ml(&mut *r0,ml(&mut "
            + "*b,es(&mut e)));}",
            new int[] {6, 681, 60, 0, 0, 4}, "");
        row(20, 60, new long[] {1, 0, 0, 1, 0, 2},
            SHAPES
            + "fn f0(p0:L,p1:&mut int)->&mut int{return p1;}fn main(){let mut v1:L=L::K(-read,box L::N);let mut h=&mut v1;m"
            + "atch & mut v1{N=>{}K(i,v4)=>{&mut v1;let v5;}}print 1*3;let mut v6=&mut v1;v1=L::N;let mut v7=h;}",
            new int[] {6, 244, 60, 0, 0, 6}, "");
        row(16, 60, new long[] {0, 1, 0},
            REFERENCES
            + "q0=&x;q1=&y;r0=&mut u;r1=&mut v;print *r1;while read==0{if read==0{q0=q0;r0=r0;*r1=read;print *r1;}else{q0=s"
            + "l(sh(&*s.b,&*b),&*q0);print *s.b;}}if read==0{if read==0{r0=&mut s.a;s=ns();}else{r0=&mut x;*s.b=*q0;print y"
            + ";r1=&mut x;}print *s.b;q0=&x;print *b;}while read==0{y=read;y=read;q0=&*q0;s.a=read;}q0=&*r1;q1=sh(sh(&*b,&*"
            + "q0),&*b);}",
            new int[] {6, 755, 60, 0, 0, 3}, "");
        row(60, 60, new long[] {1, 0, -3, 0},
            REFERENCES
            + "q0=&x;q1=&y;r0=&mut u;r1=&mut v;{let z=1;let mut w=2;print *q0;r0=&mut w;}*r1=read;if read==0{print *q1;whil"
            + "e read==0{r1=&mut y;}}q1=&*r1;*r0=read;q0=&*s.b;}",
            new int[] {6, 630, 60, 0, 0, 4}, "");
        row(16, 12, new long[] {1, 1, 1, 1, -3, 1},
            REFERENCES
            + "q0=&x;q1=&y;r0=&mut u;r1=&mut v;q0=&y;r0=&mut *r1;while read==0{print x;}match &mut e{N=>{r1=&mut s.a;r0=&mu"
            + "t y;print *b;}V(c,d)=>{print s.a;*c=1;}}if read==0{q0=&*r1;*s.b=1;while read==0{print *r0;r1=&mut x;q1=&*r1;"
            + "}}}",
            new int[] {6, 720, 12, 0, 0, 6}, "");
        row(60, 12, new long[] {0, 0, 0, 2, 1, -3},
            REFERENCES
            + "q0=&x;q1=&y;r0=&mut u;r1=&mut v;if read==0{{let z=1;let mut w=2;*r0=1;print y;print x;q0=&*q0;q0=&z;}}else{{"
            + "let z=1;let mut w=2;q1=&*r1;print x;print s.a;}print *q1;}q0=&*q0;q0=&*s.b;if read==0{print *q0;q0=sh(q1,&*r"
            + "0);if read==0{print s.a;print y;}else{*b=read;print *r1;}}else{y=read;q0=&x;*r0=read;}}",
            new int[] {6, 657, 12, 0, 0, 6}, "");
    }

    private static void rows7() {
        row(20, 12, new long[] {},
            REFERENCES
            + "q0=&x;r0=&mut u;r1=&mut v;r1=&mut *s.b;r1=&mut *b;q1=&*s.b;y=read;while read==0{r1=&mut *r1;r0=&mut *b;r0=r0"
            + ";}}",
            new int[] {6, 657, 12, 0, 0, 0}, "");
        row(16, 60, new long[] {0, 0},
            REFERENCES
            + "q0=&x;q1=&y;r0=&mut u;r1=&mut v;r1=&mut *s.b;q0=&*q1;*s.b=*s.b;r0=&mut *r1;match &mut e{N=>{q1=&*q1;print y;"
            + "print *q0;}V(c,d)=>{q1=&x;return;r0=&mut y;r1=&mut *s.b;}}}",
            new int[] {6, 610, 60, 0, 0, 2}, "");
        row(20, 12, new long[] {},
            REFERENCES
            + "q0=&x;q1=&y;r0=&mut u;r1=&mut v;q0=&*q0;{let z=1;let mut w=2;if read==0{q1=&*r0;q0=q1;s.b=box 2;q0=&x;}else{"
            + "r0=&mut x;print *s.b;q0=q0;}print *q1;{let z=1;let mut w=2;print x;}q0=q1;}r1=&mut *b;*s.b=1;q0=sl(sl(&*q0,&"
            + "*q1),&*q0);if read==0{match &e{N=>{*s.b=x;q0=&*q1;print *q0;}V(c,d)=>{print *q0;print *q0;print *r0;y=read;q"
            + "0=c;}}}}",
            new int[] {6, 673, 12, 0, 0, 0}, "");
        row(60, 12, new long[] {0},
            REFERENCES
            + "q0=&x;q1=&y;r0=&mut u;r1=&mut v;print x;match &mut e{N=>{r0=&mut y;}V(c,d)=>{y=s.a;r0=c;}}x=*q1;print *q1;ma"
            + "tch &mut e{N=>{{let z=1;let mut w=2;s.b=box 2;q1=sl(&*b,&*r0);r0=&mut s.a;q0=&z;}r0=&mut *b;while read==0{q0"
            + "=q1;*r1=read;b=box 1;}}V(c,d)=>{q1=&*s.b;r1=d;}}*r1=*r1;}",
            new int[] {6, 622, 12, 0, 0, 1}, "");
        row(60, 12, new long[] {1},
            REFERENCES
            + "q0=&x;q1=&y;r0=&mut u;r1=&mut v;if read==0{r1=mu(&mut *b);match &e{N=>{q0=&*r1;q0=&*b;}V(c,d)=>{r1=&mut s.a;"
            + "s=ns();print *q1;print *q1;q1=&*d;}}*r0=read;if read==0{r1=&mut *r1;}else{r1=&mut *b;print *b;*r0=1;q1=&*s.b"
            + ";}}*s.b=1;x=read;e=E::N;print x;print *q0;}",
            new int[] {6, 640, 12, 0, 0, 1}, "");
        row(16, 12, new long[] {0, 1, 0},
            SHAPES
            + "fn main(){print 3%7;print read/(7+2);let mut d:int=(7/0)*(2/3);let mut v2=&mut d;d=d;*v2=*v2;let mut v3:&int"
            + ";let mut v4=v2;}",
            new int[] {6, 206, 12, 0, 0, 3}, "");
        row(20, 60, new long[] {1},
            REFERENCES
            + "q0=&x;q1=&y;r0=&mut u;r1=&mut v;q0=&*q1;q1=&*q1;x=read;if read==0{r0=&mut y;q0=&s.a;match &mut e{N=>{y=1;q1="
            + "&*r1;q1=&s.a;s.a=y;}V(c,d)=>{q0=&*r0;}}while read==0{r1=&mut *b;print *r1;*r0=read;}}while read==0{if read=="
            + "0{r0=&mut *r1;r1=&mut y;print *s.b;}else{print s.a;q0=&y;s.a=1;}q0=&y;print *q1;}}",
            new int[] {6, 631, 60, 0, 0, 1}, "");
        row(16, 200, new long[] {1},
            REFERENCES
            + "q1=&y;r0=&mut u;r1=&mut v;r1=mu(&mut y);q1=q1;r1=&mut *r1;}",
            new int[] {6, 594, 200, 0, 0, 1}, "");
        row(16, 12, new long[] {0, 1},
            SHAPES
            + "fn main(){if read!=0{let mut v1=box (7/3);}let v2=box f1();print *v2-0;print *v2;let mut v3=&v2;match E::B(*"
            + "v2){C(v4,v5)=>{let mut v6:int=v5.a-f2();}A=>{v3=v3;}B(e)=>{new S{t:token(1),a:1};print **v3;let mut v8:T=new"
            + " T{b:v2,n:e,s:new S{t:token(2),a:e}};}}let mut v9:&int=&**v3;v9=v9;v9=v9;}fn f0()->E{return f0();}fn f1()->i"
            + "nt{print f2();print f2()<=2;return 0;}fn f2()->int{return f1();}",
            new int[] {6, 346, 12, 0, 0, 2}, "");
        row(16, 200, new long[] {1, 2},
            REFERENCES
            + "q0=&x;q1=&y;r0=&mut u;r1=&mut v;while read==0{while read==0{q0=q0;print *q1;print *q1;}q0=&s.a;s.a=s.a;r0=&m"
            + "ut *r1;}while read==0{q1=q1;}*r1=1;}",
            new int[] {6, 652, 200, 0, 0, 2}, "");
        row(60, 60, new long[] {0, 0, -3, -3, 1, 2},
            REFERENCES
            + "q0=&x;q1=&y;r0=&mut u;r1=&mut v;q0=&*q1;match &e{N=>{*r0=*q0;r0=mu(&mut x);q0=&*r0;r0=r0;}V(c,d)=>{q1=sl(&s."
            + "a,q0);if read==0{r0=es(&mut e);print *q0;}else{print *s.b;print x;print *b;q0=&x;}q1=sl(q0,q0);print *c;}}q1"
            + "=&*r1;r0=&mut *s.b;print *r1;}",
            new int[] {6, 693, 60, 0, 0, 6}, "");
        row(20, 200, new long[] {},
            REFERENCES
            + "q0=&x;r1=&mut v;match &e{N=>{x=read;}V(c,d)=>{q0=&y;q1=&*d;}}r1=&mut x;r1=r1;while read==0{r1=&mut x;x=read;"
            + "}q0=&*b;r1=&mut *r1;print y;}",
            new int[] {6, 658, 200, 0, 0, 0}, "");
        row(60, 200, new long[] {1, 0},
            REFERENCES
            + "q0=&x;q1=&y;r0=&mut u;r1=&mut v;s.a=1;q1=&*r0;{let z=1;let mut w=2;while read==0{q0=&*b;*b=read;print *q0;pr"
            + "int *b;}}print *r1;}",
            new int[] {6, 645, 200, 0, 0, 2}, "");
        row(60, 12, new long[] {1, 1, 1, -3, 1, 2},
            SHAPES
            + "fn main(){print 7%3;print -read;print 3;let mut v8=L::K(0%0,box L::N);v8=L::K(2,box v8);print (read!=0)!=(3!"
            + "=0);}fn f0(p0:box box token,p1:int,p2:int)->E{if read==0{}else if (read==0)||true{match L::N{N=>{let mut v1:"
            + "&box token;let mut v2=box new S{t:token(1),a:p2};}K(v3,v4)=>{let mut h=&*v4;let mut v6:&box token=&*p0;}}}le"
            + "t mut v7=&*p0;return E::B(p1-3);}",
            new int[] {7, -1, 7, 0, 0, 5}, "1\n-1\n3\n");
        row(20, 60, new long[] {},
            SHAPES
            + "fn main(){print 7%0;print !(!(read!=0));while !(read!=0){let mut v1;read;let v2:box S=box new S{t:token(1),a"
            + ":1};}let mut v3=(0/3)*0;let mut v4=box E::A;v4=v4;}",
            new int[] {7, -1, 58, 0, 0, 0}, "");
        row(20, 12, new long[] {},
            SHAPES
            + "fn main(){let v6:int=-(read/0);let mut v7=new S{t:token(1),a:v6};v7.t=token(2);print v7.a<=v7.a;while read!="
            + "0{let mut v8=false;let mut v9=&v7;}if 1!=1{let mut v10;v10=&v6;print false;}else{}print v6-v7.a;v7.t=v7.t;pr"
            + "int v6;}fn f0<'a>(p0:L,p1:&'a token)->box E{return f0(p0,p1);print -1;match E::B(3){A=>{}B(v1)=>{let mut v2:"
            + "&int;}C(v3,v4)=>{print (true&&(read!=0))&&((read==0)!=false);let mut v5=p1;v5=p1;}}print 1*1;return f0(L::K("
            + "1,box p0),p1);}",
            new int[] {7, -1, 10, 0, 0, 0}, "");
        row(20, 60, new long[] {},
            SHAPES
            + "fn f0(p0: &L)-> &L{match&*p0{N=>{print 2/1;let mut j: &mut L;let mut v2: &L= &*p0;}K(v3,v4)=>{let mut v5=E::"
            + "C(token(1),new S{a:*v3,t:token(2)});}}let mut v6: &L;return p0;}fn f1<'a>()-> &'a bool{let mut v7:box int=bo"
            + "x(3/1);return f1();}fn f2()->T{return f2();}fn main(){print 0/7;print 3*1;print 7/0;let mut v8=E::B(2/7);}",
            new int[] {7, -1, 56, 0, 0, 0}, "0\n3\n");
        row(60, 60, new long[] {1, 0, 1, 1, 1, 2},
            "struct S{a:int,t:token}struct T{s:S,b:box int,n:int}struct U{x:bool,y:box S}enum E{A,B(int),C(token,S)}enum "
            + "L{N,K(int,box int)}fn main(){print 7;let mut a=3+(0%0);}",
            new int[] {7, -1, 57, 0, 0, 6}, "7\n");
        row(20, 200, new long[] {0, 1, 1, 2},
            SHAPES
            + "fn f0(p0:&mut bool)->&mut bool{return &mut *p0;}fn f1(p0:box S,p1:&mut bool){if *p1{print (*p0).a;}else{matc"
            + "h L::K(7,box L::N){K(v1,v2)=>{print *p1!=true;*p1=false;}N=>{*p1=*p1;*p1=true;}}*p1=*p1;print read;}}fn main"
            + "(){let mut v3=E::B(3%0);while !true{match & mut v3{A=>{v3=v3;}B(v4)=>{}C(v5,v6)=>{let v7=box (box (token((*v"
            + "6).a)));(*v6).a=(*v6).a;}}}&v3;}",
            new int[] {7, -1, 198, 0, 0, 4}, "");
        row(16, 200, new long[] {0, 1, 0, 0, -3},
            SHAPES
            + "fn main(){print read;match L::N{K(v3,v4)=>{}N=>{print (3*1)+(0+2);let mut b:int=2+2;if f2(){print b;}}}print"
            + " read%0;print 1;match L::N{N=>{match E::B(0){B(v6)=>{}C(v7,v8)=>{let mut v9=&v8;print (*v9).a;}A=>{print (0+"
            + "2)*2;print -2;}}print 2;}K(d,v11)=>{print f2();return;print -d;}}let mut d=new U{x:f2(),y:box new S{t:token("
            + "2),a:2}};let mut v13=token((*d.y).a);match L::K((*d.y).a,box L::N){N=>{let mut v14=E::B((*d.y).a);v14=v14;v1"
            + "4=v14;}K(v15,v16)=>{d.x=f2();}}}fn f0<'b>(p0:box E,p1:&'b box S){}fn f1<'a>(p0:box S,p1:&'a int,p2:&'a mut b"
            + "ool){print f2()==f2();let mut v1:E=E::A;*p2=*p2;}fn f2()->bool{let v2:int=0;print v2;return false;}",
            new int[] {7, -1, 189, 0, 0, 3}, "0\n5\n0\n");
        row(16, 200, new long[] {1, 1, -3, -3, 2, 1},
            SHAPES
            + "fn f0(p0:int,p1:L){let mut v1=&p0;let mut v2:&L;if true&&(read!=0){v1=&p0;v1=&*v1;v1;}else if read==0{while "
            + "(read==0)!=(read!=0){print p0;let mut v3;v3=&p1;}}else{}let mut v4:&L=&p1;}fn main(){print -3;if 0<1{let mut"
            + " v5=E::C(token(3),new S{t:token(2),a:1});v5=v5;}else{}match E::A{A=>{print -2;print 3;}B(d)=>{}C(i,v8)=>{pri"
            + "nt v8.a;let mut v9=&v8;}}let mut v10:int=(2-7)/(1/3);while read!=0{while read==0{let v11;}}return;}",
            new int[] {7, -1, 191, 0, 0, 6}, "-3\nd3\nd2\n-2\n3\n");
        row(16, 200, new long[] {0, 1, 1, 0, 0, 1},
            SHAPES
            + "fn main(){print 7/0;let mut v1=3<(-7);let mut v2;}fn f0<'b>(p0:&'b mut S)->S{return f0(&mut *p0);}",
            new int[] {7, -1, 198, 0, 0, 6}, "");
        row(20, 200, new long[] {0, 2, 0, 0, 0, 0},
            SHAPES
            + "fn main(){print-0;print 7/0;box E::C(token(2),new S{t:token(4),a:2});print 0;let mut v7=0;}fn f0()->U{while "
            + "read!=0{E::C(token(1),new S{t:token(7),a:0});match L::K(0,box L::N){N=>{print read%(-read);let mut v1:U=f0()"
            + ";}K(v2,v3)=>{print v2;print v2;}}}print 7;let mut v4=2;return f0();}fn f1(p0:int,p1:bool)->box int{let v5:bo"
            + "x E;let mut h=f0();return f1(p0,p1);}",
            new int[] {7, -1, 197, 0, 0, 6}, "0\n");
        row(16, 12, new long[] {},
            REFERENCES
            + "q0=&x;q1=&y;r0=&mut u;r1=&mut v;*b=*r0;print s.a;s.a=*r0;q0=&*r0;}",
            new int[] {8, -1, 0, 2, 2, 0}, "");
        row(16, 200, new long[] {1, -3, 0, 1, 0},
            SHAPES
            + "fn main(){print 7-2;print 2;while true{let mut v1=(2*read)>(2%3);}let mut f:int=read-(7-3);if false&&(read!="
            + "0){}f=f;}",
            new int[] {8, -1, 0, 0, 0, 0}, "5\n2\n");
    }

    private static void rows8() {
        row(20, 12, new long[] {1, 1, 0, 1},
            SHAPES
            + "fn main(){let c=0;let v3=c/2;match E::B(0){C(v4,v5)=>{print v3;print v3;}B(v6)=>{let c=&v6;}A=>{print false;"
            + "print v3;}}let v8=E::C(token(2),new S{a:c,t:token(3)});while read!=0{let mut v9=&v8;let mut v10:int=1;}let m"
            + "ut h=&c;return;let mut v12=*h;h=&v3;}fn f0<'a>(p0:&U,p1:&'a mut box E,p2:&mut L)->L{return f0(p0,&mut *p1,&m"
            + "ut *p2);}fn f1(p0:box S,p1:U,p2:&mut box S){print (((**p2).a)%((**p2).a))/3;print p1.x;let v1=E::C(token(1),"
            + "*p0);}fn f2(p0:&mut U)->int{return read;}",
            new int[] {8, -1, 0, 0, 0, 2}, "");
        row(60, 12, new long[] {1, 0, 2, 2, 1, 1},
            REFERENCES
            + "q0=&x;q1=&y;r0=&mut u;r1=&mut v;*s.b=read;r0=&mut y;b=box 1;match &e{N=>{q1=&*q0;*s.b=1;match &e{N=>{q1=q0;}"
            + "V(c,d)=>{print *s.b;q1=sh(q0,&*r1);q0=c;}}print *s.b;}V(c,d)=>{if read==0{*s.b=read;print *b;}print s.a;prin"
            + "t *q0;r0=&mut *s.b;q1=&*d;}}q0=q1;}",
            new int[] {8, -1, 0, 2, 2, 6}, "");
        row(16, 12, new long[] {-3, 1},
            REFERENCES
            + "q0=&x;q1=&y;r0=&mut u;r1=&mut v;print *r1;q0=&*q1;q0=&*b;}",
            new int[] {8, -1, 0, 2, 2, 2}, "");
        row(60, 12, new long[] {0},
            REFERENCES
            + "q0=&x;q1=&y;r0=&mut u;r1=&mut v;q1=&*s.b;{let z=1;let mut w=2;r0=es(&mut e);s.a=*s.b;}s.a=1;r1=&mut x;r1=ml("
            + "r1,&mut *b);}",
            new int[] {8, -1, 0, 2, 2, 1}, "");
        row(60, 12, new long[] {},
            REFERENCES
            + "q1=&y;r0=&mut u;r1=&mut v;if read==0{print *b;q1=&s.a;if read==0{x=x;}else{print *s.b;r1=&mut y;print x;}}q1"
            + "=&*s.b;r1=es(&mut e);q0=&*q1;print x;q0=&*b;q0=&*s.b;}",
            new int[] {8, -1, 0, 2, 2, 0}, "");
        row(60, 12, new long[] {-3},
            REFERENCES
            + "q0=&x;q1=&y;r0=&mut u;r1=&mut v;q0=&*r0;print y;q0=&*r0;q1=q1;}",
            new int[] {8, -1, 0, 2, 2, 1}, "");
        row(16, 12, new long[] {0, 1, 0, 0, 0},
            REFERENCES
            + "q0=&x;q1=&y;r0=&mut u;r1=&mut v;print *q1;q0=&s.a;x=read;r1=mu(r0);}",
            new int[] {8, -1, 0, 2, 2, 5}, "");
        row(20, 12, new long[] {0},
            SHAPES
            + "fn main(){match E::C(token(2),new S{a:2,t:token(3)}){B(v4)=>{print v4;}A=>{}C(v5,v6)=>{while true{let mut v7"
            + ": &token;let v8:int;}{let mut v9= &v6;let v10: &token= &v5;v9=v9;}let mut f2=token(4);}}while 7!=3{print-2;l"
            + "et v12=box box token(5);let mut v13:E=E::B(0);}print 0;let mut v14:int=1;let v15=new S{t:token(2),a:v14};v14"
            + "=v14;print v15.a;let mut v16: &int;v16= &v14;}fn f0()->box E{return box E::B(read);}fn f1(p0:int,p1:bool){le"
            + "t mut v1:bool;}fn f2<'a>(p0: &mut box S,p1: &'a mut box box token){if((**p0).a)>=((**p0).a){}else{}let v2:U="
            + "new U{x:read!=0,y:box(new S{t:token(1),a:(**p0).a})};if v2.x{}else{print-1;let mut v3: &mut token= &mut(**p0"
            + ").t;}}",
            new int[] {8, -1, 0, 0, 0, 1}, "");
        row(16, 200, new long[] {},
            SHAPES
            + "fn main(){print f0(box E::A,1,token(1));let mut v5=f0(box E::A,f0(box E::A,3,token(3)),token(4));match E::C("
            + "token(5),new S{t:token(6),a:v5}){C(v6,v7)=>{let v8=f0(box E::A,v5,v7.t);}B(v9)=>{let v10=&v5;}A=>{let mut v1"
            + "1;}}match E::A{B(v12)=>{v5=7;let i=&v5;}C(v14,v15)=>{&v15;}A=>{v5=7;while read!=0{print v5;&mut v5;}}}while "
            + "read!=0{print v5;}}fn f0(p0:box E,p1:int,p2:token)->int{return f0(box E::A,read,p2);}fn f1<'b>(p0:&'b int,p1"
            + ":int){print *p0;match E::B(p1){B(v1)=>{print *p0-2;}C(i,i)=>{*p0;let mut v4=L::K(f0(box E::A,0,i.t),box L::N"
            + ");}A=>{print f0(box E::A,p1,token(0));}}print p1*1;p0;}",
            new int[] {9, -1, 190, 16, 16, 0}, "");
        row(60, 200, new long[] {1, 2, -3, 1, -3, -3},
            SHAPES
            + "fn main(){if 1>=1{}if read!=0{}let v6=box box token(2);while read!=0{print f1();}match E::C(token(3),new S{t"
            + ":token(read),a:read}){C(v7,e)=>{}B(v9)=>{print f1();print !(!(read==0));}A=>{let v10=&*v6;let v11:&token=&**"
            + "v6;}}print 3;print f1();}fn f0<'a>(p0:&'a box E,p1:bool,p2:&token)->box int{print f1();print -read;print f1("
            + ");let mut g=&**p0;return box f1();}fn f1()->int{let mut v2=box new S{a:7,t:token(1)};return f1();}fn f2<'b>("
            + "p0:int,p1:&'b mut S){let mut v3;let mut v4=&mut (*p1).a;return;let v5=v4;}",
            new int[] {9, -1, 104, 60, 60, 4}, "");
        row(20, 200, new long[] {-3},
            SHAPES
            + "fn f0()->int{let mut v1=box box token(1);let mut v2=L::K(f0(),box L::N);return f0();}fn f1()->box E{{}return"
            + " f1();}fn main(){print 1;let mut v3;print f0();print f0();let mut v4=new S{t:token(0),a:f0()};}",
            new int[] {9, -1, 164, 20, 20, 1}, "1\n");
        row(20, 60, new long[] {1, 0, 2, -3, 0, 1},
            SHAPES
            + "fn f0(){let v1=(!(read==0))&&(false!=true);while read!=0{box 0;}let mut v2=&v1;if (read!=0)==true{while fals"
            + "e{print 7;}while v1{let c=-(read%1);let mut v4:&int;v4=&c;}v2=&v1;}else{}}fn f1()->box box token{let mut v5="
            + "L::K(0,box L::N);return f1();}fn main(){let v6=f1();match L::N{N=>{&*v6;}K(v7,v8)=>{}}print read;if true{}el"
            + "se if 2>=3{let v9=E::A;print (7>=7)||(read==0);let mut v10=box new S{a:2,t:token(1)};}print 2;print read+0;}",
            new int[] {9, -1, 38, 18, 18, 6}, "");
        row(16, 60, new long[] {2, 0, 2},
            SHAPES
            + "fn main(){match E::A{C(v5,i)=>{}A=>{match E::C(token(2),new S{a:1,t:token(3)}){A=>{print f0();}C(v7,v8)=>{pr"
            + "int v8.a;}B(v9)=>{&v9;}}let v10=box E::A;print f0();}B(v11)=>{}}let mut e:int=f0();e=f0();return;print 2>e;p"
            + "rint e;}fn f0()->int{let e:box S=box new S{a:2,t:token(read)};print (*e).a;let mut v2=&(*e).t;let v3;return "
            + "f0();}fn f1(p0:&mut int,p1:box box token,p2:&int){return;*p0=*p2;let mut v4=true;}fn f2<'b>(p0:&'b int,p1:&m"
            + "ut int,p2:int)->&'b int{return p0;}",
            new int[] {9, -1, 16, 16, 16, 0}, "1\nd3\nd2\n2\n2\n2\n2\n2\n2\n");
        row(20, 200, new long[] {1, -3},
            SHAPES
            + "fn f0()->int{let v1=new U{x:7>=7,y:box new S{a:2,t:token(1)}};print v1.x;print (*v1.y).a;return (-read)/f0()"
            + ";}fn f1(p0:E)->S{let mut v2=&p0;print f0();v2=&p0;return f1(p0);}fn main(){let mut v3;if !(read!=0){}let mut"
            + " v4=f1(E::C(token(2),new S{t:token(7),a:1}));v3=E::A;v3=E::B(3);}",
            new int[] {9, -1, 141, 20, 20, 0}, "true\n2\ntrue\n2\ntrue\n2\ntrue\n2\ntrue\n2\ntrue\n2\ntrue\n2\ntrue\n2\ntrue\n2\ntrue\n2\n");
        row(16, 200, new long[] {},
            SHAPES
            + "fn f0<'a>(p0:&'a mut int,p1:&'a E)->E{return f0(&mut *p0,p1);}fn f1()->int{let mut v1=box E::A;match & mut *"
            + "v1{C(v2,v3)=>{}B(v4)=>{}A=>{v1=v1;&mut *v1;&v1;}}print f1();return f1();}fn main(){print f1();let mut v5=f1("
            + ");if read!=0{v5=f1();print read==0;v5=f1();}else{print v5;}}",
            new int[] {9, -1, 168, 16, 16, 0}, "");
        row(16, 200, new long[] {0, 2, 0},
            SHAPES
            + "fn main(){print 0;let e=box f0();print *e**e;print *e**e;let v15=f0();print v15;{}}fn f0()->int{if !(read==0"
            + "){{let mut v1=token(1);v1=v1;}}else{box new S{t:token(2),a:0};new T{b:box 2,s:new S{t:token(3),a:0},n:f0()};"
            + "}while false{let mut d=f0();}match E::B(3){C(v3,v4)=>{print v4.a;}A=>{}B(v5)=>{if (read!=0)==true{print v5/v"
            + "5;let mut a=&v5;let mut v7:T=f2();}print -v5;match E::C(token(4),new S{t:token(v5),a:v5}){C(v8,v9)=>{print f"
            + "0();print 2;let mut v10=&v9.a;}A=>{print 0;let mut j;}B(v12)=>{print 1;}}}}return f0();}fn f1<'b>(p0:&'b int"
            + ",p1:&mut token,p2:token)->box int{return box *p0;}fn f2()->T{let v13=E::A;return new T{n:f0(),b:box 2,s:new "
            + "S{t:token(6),a:3}};return f2();}",
            new int[] {9, -1, 122, 15, 16, 0}, "0\nd2\nd1\n-3\nd2\nd2\nd2\nd2\nd2\nd2\nd2\nd2\nd2\nd2\nd2\nd2\nd2\nd2\n");
        row(60, 200, new long[] {0, 0, 1, 0, 0, 0},
            SHAPES
            + "fn f0()->int{match E::A{A=>{print f0();let v1=f0();let mut v2=true;}C(v3,v4)=>{print v4.a;if true{let mut v5"
            + "=&v4;}let v6=L::K(v4.a,box L::N);}B(v7)=>{print v7;let v8:int=1;}}print false;print f0();return f0()-7;}fn m"
            + "ain(){print f0();let mut v9=f0();box (v9%v9);v9=v9%2;let mut f:int;}",
            new int[] {10, -1, 20, 0, 0, 6}, "");
        row(16, 200, new long[] {-3},
            SHAPES
            + "fn main(){print f1();f1();print read!=0;}fn f0<'b>(p0:L,p1: &'b int)->E{let v1= &*p1;let mut v2= &*v1;return"
            + " f0(L::K(*p1,box L::N),p1);}fn f1()->int{f1();match L::N{K(v3,v4)=>{print f1();{}while read!=0{print read-v3"
            + ";}}N=>{return f1();while(read==0)==true{let v5=box new S{t:token(1),a:7};print(*v5).a;let mut v6=f0(L::K(rea"
            + "d,box L::N),&(*v5).a);}print f1();}}let mut v7:E=E::A;return f1();}",
            new int[] {10, -1, 79, 0, 0, 1}, "");
        row(20, 200, new long[] {0, 2, 1, 1, 2},
            SHAPES
            + "fn f0(p0:int)->int{let mut v1=&p0;while read!=0{match E::B(read){A=>{let mut v2=&p0;}B(v3)=>{print v3;}C(v4,"
            + "v5)=>{let mut v6;}}let v7:L;if 2>0{&*v1;print 2;}else{let mut v8=v1;v1=v1;}}let mut v9=v1;return 1;}fn f1(p0"
            + ":&E,p1:&mut U,p2:int)->S{&mut *(*p1).y;return f1(p0,&mut *p1,p2);}fn f2()->int{return f2();}fn main(){let mu"
            + "t v10=f0(f2());v10=f2();let mut v11:box S=box new S{t:token(1),a:1};(*v11).t=token(1);let v12=&v10;}",
            new int[] {10, -1, 79, 0, 0, 5}, "");
        row(16, 200, new long[] {},
            SHAPES
            + "fn main(){print 3;print f1();let mut d:int;}fn f0(){if 3!=3{box new S{a:2,t:token(1)};}}fn f1()->int{return "
            + "f1();}fn f2(p0:L,p1:&mut int){let mut v1=&*p1;print *p1;}",
            new int[] {10, -1, 78, 0, 0, 0}, "3\n");
        row(20, 200, new long[] {-3, 0},
            SHAPES
            + "fn main(){let mut v3=f0();{while read!=0{print v3;}}let mut v4:&mut int=&mut v3;v4=v4;v3=*v4;}fn f0()->int{r"
            + "eturn f0();}fn f1()->U{return new U{x:(read==0)||false,y:box new S{t:token(1),a:read}};}fn f2()->T{let mut v"
            + "1:int;return f2();let mut f=v1;return f2();}",
            new int[] {10, -1, 79, 0, 0, 2}, "");
        row(16, 200, new long[] {},
            SHAPES
            + "fn main(){print f1();print 3*read;print f1();let mut v9=box box token(1);let mut v10=&mut **v9;v9=box *v9;}f"
            + "n f0<'a>(p0:&mut int,p1:&'a mut box E)->&'a mut box E{return p1;}fn f1()->int{let mut v1=box f1();&mut v1;if"
            + " (read==0)||true{match L::K(*v1,box L::N){N=>{print *v1;}K(v2,a)=>{}}v1=v1;*v1=*v1-*v1;}else if true{}return"
            + " f1();}fn f2(){print f1();print f1();let mut v4=!false;if v4{match E::A{C(v5,v6)=>{let mut v7=&v4;v6;}B(v8)="
            + ">{}A=>{v4=v4;print 1;print f1();}}}else{&mut v4;v4=v4;&v4;}}",
            new int[] {10, -1, 79, 0, 0, 0}, "");
    }
}
