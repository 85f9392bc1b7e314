/** The largest texts, and texts that are no texts: every call ends with an answer of the document. */
public final class StressTest {
    private static final String[] PIECES = ("struct enum fn let mut if else while match return print read true false box"
        + " new token int bool 'a a b f main P E A 0 1 7 + - * / % == != < <= > >= && || ! = & . , : :: ; ( ) { } ->"
        + " => // # ").split(" ");
    private static long seed = 126;

    public static void main(String[] args) {
        largest();
        manyArguments();
        manyTypes();
        manyHolders();
        soup();
        broken();
        manyRuns();
        largeRuns();
        Check.end();
    }

    private static String main(String body) {
        return "fn main(){" + body + "}";
    }

    private static void largest() {
        Check.writes(main("let x=1;" + Check.times(1480, "x;")), "");
        Check.writes(main("let a=false;print " + Check.times(980, "a||") + "a;"), "false\n");
        Check.writes(main("let a=true;print " + Check.times(490, "a&&a||") + "a;"), "true\n");
        Check.writes(main("let a=false;" + Check.times(490, "if a{}")), "");
        Check.writes(main("let a=false;if a{}" + Check.times(260, "else if a{}") + "else{print 1;}"), "1\n");
        Check.writes(main("let a=false;" + Check.times(325, "while a{}")), "");
        Check.writes(main("let x=1;print " + Check.times(1480, "x+") + "1;"), "1481\n");
        Check.writes(main(Check.times(1480, "{}")), "");
        Check.writes("enum E{A}" + main("let e=E::A;" + Check.times(54, "match &e{A=>{}}")
            + Check.times(110, "match E::A{A=>{}}")), "");
        Check.writes("enum E{A,B,C,D,F,G,H,I,J,K,L,M}" + main(Check.times(40, "match E::M{A=>{}B=>{}C=>{}D=>{}F=>{}G=>{}"
            + "H=>{}I=>{}J=>{}K=>{}L=>{}M=>{}}")), "");
        Check.writes(main(Check.times(372, "print 1;").substring(0, 2976)), Check.times(372, "1\n"));
    }

    /** Frames as large as they can be, in as many calls as there can be. */
    private static void manyArguments() {
        String call = "r(n-1)";
        for (int i = 0; i < 13; i++) {
            call = "f(" + Check.times(11, "E::A,") + call + ")";
        }
        String text = "struct T{a:int,b:int,c:int,d:int}enum E{A,B(T,T,T,int,int,int)}fn r(n:int)->int{if n<=0{return 0;}"
            + "return " + call + ";}fn f(a:E,b:E,c:E,d:E,e:E,g:E,h:E,i:E,j:E,k:E,l:E,n:int)->int{return n+1;}";
        Check.writes(text + main("print r(58);"), "754\n");
        Check.runs(text + main("print r(59);"), 20000, 10, "");
    }

    private static void manyTypes() {
        StringBuilder lets = new StringBuilder();
        for (int i = 0; i < 38; i++) {
            lets.append("let v").append(i).append('=').append(Check.times(14, "box "));
            lets.append(i == 0 ? "1" : "v" + (i - 1)).append(';');
        }
        OwnedPlaces x = new OwnedPlaces(4000);
        String text = main(lets + "&v37;");
        Check.feed(x, text);
        Check.due("many types", x.run(text.length(), 99), 0);
        Check.due("most cells", x.count(2), 532);
        Check.due("cells", x.count(1), 0);
    }

    /** What goes from variable to variable in a loop is found, however long it takes. */
    private static void manyHolders() {
        StringBuilder lets = new StringBuilder("let mut y=2;let z=3;let a=&z;");
        StringBuilder shifts = new StringBuilder();
        for (int i = 0; i < 30; i++) {
            lets.append("let mut r").append(i).append("=a;");
            shifts.append('r').append(i).append('=').append(i < 29 ? "r" + (i + 1) : "&y").append(';');
        }
        Check.fault(6, main(lets + "while read!=0{" + shifts + "}@y=5;print *r0;"));
        Check.fine(main(lets + "while read!=0{" + shifts + "}r0=a;y=5;print *r0;"));
    }

    private static int random(int below) {
        seed = seed * 6364136223846793005L + 1442695040888963407L;
        return (int) ((seed >>> 33) % below);
    }

    private static void answers(OwnedPlaces x, String text) {
        Check.feed(x, text);
        int fault = x.run(text.length(), 500);
        int place = x.place();
        boolean inText = fault >= 1 && fault <= 6;
        boolean fits = fault >= 0 && fault <= 10 && (inText ? place >= 0 && place <= text.length() : place == -1);
        if (!fits || inText && x.count(0) != 500 || x.count(1) > x.count(2) || fault == 0 && x.count(1) != 0) {
            Check.due("answers to " + text + ": fault " + fault + " at " + place, 0, 1);
        }
        Check.fetchAll(x);
    }

    private static void soup() {
        OwnedPlaces x = new OwnedPlaces(40);
        for (int i = 0; i < 3000; i++) {
            StringBuilder text = new StringBuilder("fn main(){");
            int size = random(60);
            for (int k = 0; k < size; k++) {
                text.append(PIECES[random(PIECES.length)]).append(random(4) == 0 ? "\n" : " ");
            }
            answers(x, text + "}");
        }
    }

    /** Good texts with a byte or a few of them changed, taken out, or cut off behind. */
    private static void broken() {
        String[] texts = {
            "enum L{E,C(int,box L)}fn len(l:&L)->int{match & *l{E=>{return 0;}C(h,t)=>{return 1+len(&**t);}}}fn main(){"
                + "let mut l=L::E;let mut i=0;while i<5{l=L::C(i*i,box l);i=i+1;}print len(&l);match l{E=>{}C(h,t)=>{}}}",
            "struct P{a:int,b:token}fn mk<'a>(n:int,r:&'a mut P)->&'a mut P{(*r).a=n;return r;}fn main(){let mut p=new P"
                + "{a:1,b:token(2)};let q=mk(3,&mut p);print (*q).a;let t=p.b;if p.a==3&&true||false{p.b=t;}else{t;}}",
        };
        OwnedPlaces x = new OwnedPlaces(40);
        for (String text : texts) {
            for (int i = 0; i < text.length(); i++) {
                answers(x, text.substring(0, i));
                answers(x, text.substring(0, i) + text.substring(i + 1));
                answers(x, text.substring(0, i) + (char) random(256) + text.substring(i + 1));
                answers(x, text.substring(0, i) + PIECES[random(PIECES.length)] + text.substring(i));
                int to = i + random(text.length() - i);
                answers(x, text.substring(0, i) + text.substring(to));
            }
        }
    }

    /** Large texts one behind the other, as many as there can be calls for. */
    private static void largeRuns() {
        OwnedPlaces x = new OwnedPlaces(500);
        String[] texts = {main("let a=false;" + Check.times(240, "if a{}") + "print 1;"), main("let a=false;print "
            + Check.times(480, "a||") + "!a;"), main("let a=1;" + Check.times(720, "a;") + "print a==1;")};
        for (int i = 0; i < 6; i++) {
            String text = texts[i % 3];
            Check.feed(x, text);
            Check.due("large run " + i, x.run(text.length(), 2000), 0);
            Check.due("its fuel", x.count(0), i % 3 == 0 ? 1757 : i % 3 == 1 ? 1997 : 1277);
            Check.due("its bytes", Check.fetchAll(x), i % 3 == 0 ? "1\n" : "true\n");
        }
    }

    /** What one run leaves does not tell in the next one. */
    private static void manyRuns() {
        OwnedPlaces x = new OwnedPlaces(100);
        String good = "enum L{E,C(token,box L)}fn main(){let mut l=L::E;l=L::C(token(1),box l);l=L::C(token(2),box l);}";
        String[] others = {"fn main(){let x=box 1;print 1/0;}", "fn f(){f();}fn main(){f();}", "struct L{a:L}fn main(){}",
            "fn main(){let x=1;x=2;}", "fn main(){let r;{let x=1;r=&x;}print *r;}", "fn main(){while true{}}", "{", ""};
        for (int i = 0; i < 40; i++) {
            answers(x, others[i % others.length]);
            Check.feed(x, good);
            Check.due("good run " + i, x.run(good.length(), 50), 0);
            Check.due("its fuel", x.count(0), 46);
            Check.due("its cells", x.count(2), 6);
            Check.due("its bytes", Check.fetchAll(x), "d2\nd1\n");
        }
    }
}
