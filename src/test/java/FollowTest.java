/** Several runs that follow one another on one object: each answers as on a new one, but for input and bytes that wait. */
public final class FollowTest {
    private static final int HEAP = 60;
    private static final int MOST_CALLS = 512;
    private static final String LIST = "enum L{N,C(token,box L)}fn add(l:L,n:int)->L{return L::C(token(n),box l);}";
    private static final String PAIR = "struct P{a:int,t:token}fn p(n:int)->P{return new P{t:token(n),a:n+1};}";
    private static long seed = 7;

    // Of each fault and of none, with types, labels, loans and lives by other numbers in each of them.
    private static final String[] TEXTS = {
        "",
        "fn main(){}",
        "fn main(){print 1;print true;print -5;}",
        "fn main(){let x=1 print x;}",
        "fn main(){let x=#;}",
        "fn main(){{{{{{{{{{{{{{{{{}}}}}}}}}}}}}}}}}",
        "fn f<'a,'b,'c,'d,'e,'f,'g,'h,'i>(){}fn main(){}",
        "fn main(){print y;}",
        "fn f(){}fn f(){}fn main(){}",
        "struct A{a:A}fn main(){}",
        "struct A{a:B}struct B{a:int,a:int}fn main(){}",
        "fn f(){}",
        "fn main(a:int){}",
        "fn main(){let x=1;x=true;}",
        "fn f()->int{while true{return 1;}}fn main(){}",
        "enum E{A,B}fn main(){match E::A{A=>{}}}",
        "fn main(){let x=1;x=2;}",
        "fn main(){let t=token(1);t;t;}",
        "fn main(){let t=token(1);while read==0{t;}}",
        "fn main(){let mut x=1;let r=&x;x=2;print *r;}",
        "fn main(){let r;{let y=2;r=&y;}print *r;}",
        "fn f<'a>(a:&'a int,b:&int)->&'a int{return b;}fn main(){}",
        "fn main(){let x=9223372036854775807;let b=box x;print 3;print x+1;}",
        "fn main(){let b=box box 1;let c=token(4);print 1/read;}",
        "fn main(){while true{}}",
        "fn main(){let b=box 1;let t=token(5);while true{print 1;}}",
        "fn f(n:int){let b=box n;f(n+1);}fn main(){f(1);}",
        "fn f(n:int){f(n+1);}fn main(){print 2;f(1);}",
        LIST + "fn main(){let mut l=L::N;while true{l=add(l,7);}}",
        LIST + "fn main(){let mut l=L::N;let mut i=0;while i<9{l=add(l,i);i=i+1;}print i;}",
        LIST + "fn len(l:&L)->int{match & *l{N=>{return 0;}C(t,r)=>{return 1+len(&**r);}}}fn main(){let l=add(add(L::N,1),2);"
            + "print len(&l);match l{N=>{}C(t,r)=>{print len(&*r);}}}",
        LIST + "fn main(){let mut l=add(L::N,3);match &mut l{N=>{}C(t,r)=>{*t=token(8);**r=L::N;}}l=L::N;print 1;}",
        PAIR + "fn main(){let x=p(1);let mut y=p(2);{let z=p(3);y=z;}let t=x.t;print x.a;let b=box p(4);let u=*b;print u.a;p(5);}",
        PAIR + "fn main(){let mut q:P;q.a=1;print q.a;q.t=token(2);let r=q;q=p(6);}",
        PAIR + "fn up(q:&mut P)->&mut int{return &mut (*q).a;}fn main(){let mut q=p(1);{let r=up(&mut q);*r=*r+40;}print q.a;}",
        PAIR + "fn main(){let q=p(1);let r=&q;let s=q;print (*r).a;}",
        PAIR + "fn main(){let q=p(1);let t=q.t;let s=q;}",
        PAIR + "fn main(){let q=p(true);}",
        "struct L{t:token,p:int}enum P{a,t(L)}fn main(){let l=new L{p:1,t:token(1)};let p=P::t(l);match p{a=>{}t(l)=>{print l.p;}}}",
        "fn one(a:&int,b:&int)->&int{if *a<*b{return a;}return b;}fn main(){let x=3;let y=2;let r=one(&x,&y);print *r;}",
        "fn one<'a>(a:&'a int,b:&int)->&'a int{return a;}fn main(){let x=3;let mut y=2;let r=one(&x,&y);y=5;print *r+y;}",
        "fn fib(n:int)->int{if n<2{return n;}return fib(n-1)+fib(n-2);}fn main(){print fib(9);}",
        "fn main(){let x;let y;if read==0{x=1;}else{x=2;}y=x;print y;}",
        "fn main(){let mut i=0;while i<3{let t=token(i);if i==1||false&&true{print i;}else if i==2{t;}else{}i=i+1;}}",
        "fn main(){return;print 1;}",
        "enum E{A(int,int),B}fn main(){let mut e=E::A(1,2);match &mut e{A(x,y)=>{*x=*y+5;}B=>{}}match &e{A(x,y)=>{print *x;}B=>{}}"
            + "match e{B=>{}A(y,x)=>{print x-y;}}}",
        "fn main(){print 7/-2;print -7%3;print 1<2==true;print !(1>=2);print 2*3+4;print 2+3*4;}",
        "fn main(){let a=box 1;let b=box a;let c=box b;let d=box c;print ****d;let e=*d;print ***e;}",
        "fn main(){let b=box token(1);let c=b;let d=*c;print 2;}// the end",
        "fn g(t:token,u:token){}fn main(){let mut t=token(1);let u=token(2);g(t,u);t=token(3);print 0;}",
    };

    public static void main(String[] args) {
        eachBehindEach();
        longRows();
        refusedBetween();
        bytesWait();
        inputStays();
        whatOneRunLeaves();
        toldByHand();
        Check.end();
    }

    private static int random(int below) {
        seed = seed * 6364136223846793005L + 1442695040888963407L;
        return (int) ((seed >>> 33) % below);
    }

    /** All that a run answers and leaves, with what it wrote. */
    private static String answers(OwnedPlaces x, String text, int fuel) {
        Check.feed(x, text);
        StringBuilder all = new StringBuilder();
        all.append(x.run(text.length(), fuel)).append(' ').append(x.place());
        for (int what = 0; what <= 5; what++) {
            all.append(' ').append(x.count(what));
        }
        return all.append(' ').append(Check.fetchAll(x)).toString();
    }

    private static String[] alone(int fuel) {
        String[] all = new String[TEXTS.length];
        for (int i = 0; i < TEXTS.length; i++) {
            all[i] = answers(new OwnedPlaces(HEAP), TEXTS[i], fuel);
        }
        return all;
    }

    private static void eachBehindEach() {
        for (int fuel = 200; fuel >= 8; fuel /= 5) {
            String[] due = alone(fuel);
            for (String first : TEXTS) {
                for (int i = 0; i < TEXTS.length; i++) {
                    OwnedPlaces x = new OwnedPlaces(HEAP);
                    answers(x, first, fuel + 3);
                    Check.due(TEXTS[i] + " behind " + first, answers(x, TEXTS[i], fuel), due[i]);
                }
            }
        }
    }

    private static int callsOf(String text, String answers) {
        return (text.length() + 19) / 20 + 8 + answers.length() / 7 + 2;
    }

    private static void longRows() {
        String[] due = alone(150);
        for (int row = 0; row < 60; row++) {
            OwnedPlaces x = new OwnedPlaces(HEAP);
            int calls = 0;
            String before = "nothing";
            while (calls < MOST_CALLS) {
                int i = random(TEXTS.length);
                calls += callsOf(TEXTS[i], due[i]);
                if (calls <= MOST_CALLS) {
                    Check.due(TEXTS[i] + " in a row, behind " + before, answers(x, TEXTS[i], 150), due[i]);
                }
                before = TEXTS[i];
            }
        }
    }

    /** A call that is refused changes nothing, neither of what is there nor of what comes. */
    private static void refusedBetween() {
        String[] due = alone(90);
        for (int i = 0; i < TEXTS.length; i++) {
            OwnedPlaces x = new OwnedPlaces(HEAP);
            answers(x, TEXTS[(i + 5) % TEXTS.length], 90);
            int place = x.place();
            int fuel = x.count(0);
            int cells = x.count(1);
            int most = x.count(2);
            String filled = TEXTS[i] + Check.times(3000 - TEXTS[i].length(), "}");
            Check.feed(x, filled);
            Check.due("run", x.run(3001, 5), -1);
            Check.due("run", x.run(TEXTS[i].length(), 20001), -1);
            Check.due("run", x.run(TEXTS[i].length(), -1), -1);
            Check.due("run", x.run(-1, 5), -1);
            Check.due("feed", x.feed(1, 2, 3, 4, 5) ? 1 : 0, 0);
            Check.due("count", x.count(6), -1);
            Check.state("of the run ahead of " + TEXTS[i], x, place, fuel, cells, most, 3000, 0, 0);
            int fault = x.run(TEXTS[i].length(), 90);
            StringBuilder all = new StringBuilder();
            all.append(fault).append(' ').append(x.place());
            for (int what = 0; what <= 5; what++) {
                all.append(' ').append(x.count(what));
            }
            all.append(' ').append(Check.fetchAll(x));
            Check.due(TEXTS[i] + " behind calls that are refused", all.toString(), due[i]);
        }
    }

    /** What was written waits over runs, behind what waits already. */
    private static void bytesWait() {
        String[] due = alone(100);
        for (int row = 0; row < 40; row++) {
            OwnedPlaces x = new OwnedPlaces(HEAP);
            StringBuilder written = new StringBuilder();
            for (int k = 0; k < 12; k++) {
                int i = random(TEXTS.length);
                Check.feed(x, TEXTS[i]);
                String fault = Integer.toString(x.run(TEXTS[i].length(), 100));
                Check.due("fault of " + TEXTS[i], fault, due[i].substring(0, due[i].indexOf(' ')));
                // Behind the fault, the place and the six counts.
                String[] parts = due[i].split(" ", 9);
                written.append(parts[8]);
                Check.due("waiting behind " + TEXTS[i], x.count(4), written.length());
                if (random(3) == 0 && written.length() > 0) {
                    long seven = x.fetch();
                    int size = Math.min(7, written.length());
                    Check.due("how many", seven >>> 56, size);
                    Check.due("the first", seven >>> 48 & 255, written.charAt(0));
                    written.delete(0, size);
                }
            }
            Check.due("all that was written", Check.fetchAll(x), written.toString());
        }
    }

    /** Input stays over runs, also over those with a fault; what was read is gone. */
    private static void inputStays() {
        String[] texts = {"fn main(){print read;}", "fn main(){print read+read;}", "fn main(){read;print 1/0;}",
            "fn main(){print y;read;}", "fn main(){let mut i=0;while i<3{print read;i=i+1;}}", "fn main(){false&&read==1;}",
            "fn f(a:int,b:int){print a-b;}fn main(){f(read,read);}", "fn main(){print #read;}"};
        int[] reads = {1, 2, 1, 0, 3, 0, 2, 0};
        for (int row = 0; row < 50; row++) {
            OwnedPlaces x = new OwnedPlaces(HEAP);
            java.util.ArrayDeque<Long> numbers = new java.util.ArrayDeque<>();
            for (int k = 0; k < 15; k++) {
                for (int j = random(9); j > 0; j--) {
                    long v = random(100000) - 50000L;
                    Check.due("input", x.input(v) ? 1 : 0, numbers.size() < 60 ? 1 : 0);
                    if (numbers.size() < 60) {
                        numbers.add(v);
                    }
                }
                int i = random(texts.length);
                long[] got = new long[3];
                for (int j = 0; j < reads[i]; j++) {
                    got[j] = numbers.isEmpty() ? 0 : numbers.remove();
                }
                Check.feed(x, texts[i]);
                x.run(texts[i].length(), 50);
                Check.due("numbers behind " + texts[i], x.count(5), numbers.size());
                String due = i == 0 ? got[0] + "\n" : i == 1 ? got[0] + got[1] + "\n"
                    : i == 4 ? got[0] + "\n" + got[1] + "\n" + got[2] + "\n" : i == 6 ? got[0] - got[1] + "\n" : "";
                Check.due("written by " + texts[i], Check.fetchAll(x), due);
            }
        }
    }

    /** Cells that a run with a fault left in use are free in the next one, and counted anew. */
    private static void whatOneRunLeaves() {
        OwnedPlaces x = new OwnedPlaces(16);
        String full = "enum L{N,C(box L)}fn main(){let mut l=L::N;while true{l=L::C(box l);}}";
        String half = "enum L{N,C(box L)}fn main(){let mut l=L::N;let mut i=0;while i<4{l=L::C(box l);i=i+1;}print 1/read;}";
        for (int i = 0; i < 4; i++) {
            Check.feed(x, full);
            Check.due("no room", x.run(full.length(), 99), 9);
            Check.due("all in use", x.count(1), 16);
            Check.feed(x, half);
            Check.due("panic", x.run(half.length(), 99), 7);
            Check.due("half in use", x.count(1), 8);
            Check.due("half was the most", x.count(2), 8);
            Check.feed(x, "fn main(){print y;}");
            Check.due("no name", x.run(19, 99), 3);
            Check.due("none in use", x.count(1), 0);
            Check.due("none was the most", x.count(2), 0);
            Check.feed(x, half);
            x.input(1);
            Check.due("fine", x.run(half.length(), 99), 0);
            Check.due("none in use at the end", x.count(1), 0);
            Check.due("half was the most at the end", x.count(2), 8);
            Check.due("written", Check.fetchAll(x), "1\n");
        }
    }

    /** One row of runs with all that is due told here, not by another object. */
    private static void toldByHand() {
        OwnedPlaces x = new OwnedPlaces(20);
        run(x, "struct P{a:int,b:token}fn main(){let p=new P{a:2,b:token(3)};let q=box p;print (*q).a;}", 9, 0);
        Check.state("1", x, -1, 5, 0, 2, 0, 5, 0);
        run(x, "fn main(){let q=box 1;print *q;print p.a;}", 9, 3);
        Check.state("2", x, 37, 9, 0, 0, 0, 5, 0);
        x.input(10);
        x.input(0);
        run(x, "fn main(){let q=box box read;print 100/read;}", 9, 7);
        Check.state("3", x, -1, 6, 2, 2, 0, 5, 0);
        Check.due("refused", x.run(1, 1), -1);
        Check.state("3 still", x, -1, 6, 2, 2, 0, 5, 0);
        run(x, "fn main(){let mut t=token(read);t=token(8);}", 9, 0);
        Check.state("4", x, -1, 6, 0, 0, 0, 11, 0);
        Check.due("seven bytes", x.fetch(), 0x07320A64330A6430L);
        run(x, "fn main(){let mut x=1;let r=&mut x;x=2;*r=3;}", 20000, 6);
        Check.state("5", x, 35, 20000, 0, 0, 0, 4, 0);
        run(x, "fn f(){f();}fn main(){f();}", 300, 10);
        Check.state("6", x, -1, 300 - 121, 0, 0, 0, 4, 0);
        run(x, "fn main(){print 4;print 5;}", 2, 8);
        Check.state("7", x, -1, 0, 0, 0, 0, 6, 0);
        Check.due("the rest", Check.fetchAll(x), "\nd8\n4\n");
        Check.state("at last", x, -1, 0, 0, 0, 0, 0, 0);
    }

    private static void run(OwnedPlaces x, String text, int fuel, int fault) {
        Check.feed(x, text);
        Check.due("fault of " + text, x.run(text.length(), fuel), fault);
    }
}
