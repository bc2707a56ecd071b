/** For each promise of the document: ordinary inputs, the edges that it names, and wrong inputs. */
public final class PromiseTest {
    private static final int NONE = -1;
    private static final Class<?> INDEX = IndexOutOfBoundsException.class;
    private static final Class<?> ARGUMENT = IllegalArgumentException.class;
    private static final Class<?> STATE = IllegalStateException.class;

    /** Two atoms: 0 a, 1 not a, 2 both, 3 one or both; a is seen in WEEK 2; both are so. */
    private static final String FOUR = "atoms 2;slip a;slip not a;slip a and b;slip a or b;see 2 a;world 3;";
    private static final String EIGHT = "slip a;slip a;slip a;slip a;slip a;slip a;slip a;slip a;";

    private static int promise = 0;
    private static int checks = 0;
    private static int wrong = 0;

    private interface Call {
        long answer();
    }

    public static void main(String[] args) {
        texts();
        jarFaults();
        jarKeepsAndEmpties();
        tonguesAndQuestions();
        slips();
        orderLawWorld();
        year();
        allOrders();
        sets();
        salts();
        drawing();
        schools();
        killersAndQuarrels();
        knowing();
        plain();
        graves();
        tongueValues();
        images();
        refusals();
        System.out.println(checks + " checks, " + wrong + " wrong");
        if (wrong != 0) {
            System.exit(1);
        }
    }

    private static void due(long got, long want) {
        checks++;
        if (got != want) {
            wrong++;
            StackTraceElement at = new Throwable().getStackTrace()[1];
            System.out.println("promise " + promise + ", line " + at.getLineNumber() + ": " + got + ", due is " + want);
        }
    }

    private static void due(boolean got, boolean want) {
        due(got ? 1 : 0, want ? 1 : 0);
    }

    private static void refused(Class<?> by, Call call) {
        checks++;
        Class<?> got = null;
        try {
            call.answer();
        } catch (RuntimeException e) {
            got = e.getClass();
        }
        if (got != by) {
            wrong++;
            StackTraceElement at = new Throwable().getStackTrace()[1];
            System.out.println("promise " + promise + ", line " + at.getLineNumber() + ": " + got + ", due is " + by);
        }
    }

    private static LotBeliefs with(String jar) {
        LotBeliefs x = new LotBeliefs();
        if (Feeder.jar(x, jar) < 0) {
            wrong++;
            System.out.println("promise " + promise + ": a jar is not read, fault at " + x.fault() + ": " + jar);
        }
        return x;
    }

    private static String times(String s, int many) {
        return s.repeat(many);
    }

    private static void texts() {
        promise = 1;
        LotBeliefs x = new LotBeliefs();
        due(x.told(0), 4);
        for (int what = 1; what < 6; what++) {
            due(x.told(what), 0);
        }
        due(x.left(51), 65535);
        due(x.proof(0), 0);
        due(x.fault(), NONE);
        due(x.at(0), NONE);
        due(x.count(0), 0);
        due(x.count(1), 0);
        due(LotBeliefs.NONE, -1);
        promise = 2;
        for (int i = 1; i <= 30; i++) {
            due(x.feed(1, 2, 3, 4, 5), 20 * i);
        }
        due(x.feed(1, 2, 3, 4, 5), NONE);
        due(x.count(1), 600);
        x.question(0);
        due(x.feed('n' << 24 | 'o' << 16 | 't' << 8 | ' ', 'a' << 24 | ' ' << 16 | ' ' << 8 | 'o',
                'r' << 24 | ' ' << 16 | 'b' << 8 | ';', -1, 0), 20);
        due(x.question(11), 12);
        due(x.feed(-1, -1, -1, -1, -1), 20);
        due(x.question(1), -9);
        due(x.fault(), 0);
    }

    private static void fault(String jar, int code, int place) {
        LotBeliefs x = new LotBeliefs();
        int got = Feeder.jar(x, jar);
        checks++;
        if (got != code || x.fault() != place) {
            wrong++;
            System.out.println("jar " + jar + ": " + got + " at " + x.fault() + ", due is " + code + " at " + place);
        }
    }

    private static void jarFaults() {
        promise = 3;
        fault("", 0, NONE);
        fault("   ", 0, NONE);
        fault("law 3", -9, 5);
        fault("law 3  ", -9, 7);
        fault(";", -9, 0);
        fault("slip a;;", -9, 7);
        fault("Slip a;", -9, 0);
        fault("slip A;", -9, 5);
        fault("slip\ta;", -9, 4);
        fault("slipa;", -9, 0);
        fault("slip aa;", -9, 5);
        fault("slip az;", -9, 5);
        fault("slip a b;", -9, 7);
        fault("slip a and;", -9, 10);
        fault("slip and;", -9, 5);
        fault("slip a];", -9, 6);
        fault("slip [a;", -9, 7);
        fault("slip if a then;", -9, 14);
        fault("slip if a;", -9, 9);
        fault("slip a1;", -9, 6);
        fault("slip 1;", -9, 5);
        fault("slip nota;", -9, 5);
        fault("slip a\u00ff;", -9, 6);
        fault("slip if a then b and c or not d;", 1, NONE);
        fault("slip[a]and[b]or not[c];", 1, NONE);
        fault("atoms a;", -9, 6);
        fault("atoms 0;", -8, 6);
        fault("atoms 7;", -8, 6);
        fault("atoms  99999999999999999999999;", -8, 7);
        fault("atoms 4294967297;", -8, 6);
        fault("atoms 0006;slip f;", 1, NONE);
        fault("atoms2;slip b;", 1, NONE);
        fault("atoms 2;slip c;", -9, 13);
        fault("slip e;", -9, 5);
        fault("see 51 a;see 0 a;", 0, NONE);
        fault("see 52 a;", -8, 4);
        fault("see a;", -9, 4);
        fault("see 3a;", 0, NONE);
        fault("see 3 3 a;", -9, 6);
        fault("see -1 a;", -9, 4);
        fault("world 15;", 0, NONE);
        fault("world 16;", -8, 6);
        fault("atoms 1;world 2;", -8, 14);
        fault("atoms 6;world 63;", 0, NONE);
        fault("atoms 6;world 64;", -8, 14);
        fault("law 4;", 0, NONE);
        fault("law 5;", -8, 4);
        fault("atoms 2;atoms 2;", -6, 8);
        fault("law 0;atoms 2;", -6, 6);
        fault("law 0;atoms 9;", -6, 6);
        fault(times("slip a;", 12), 12, NONE);
        fault(times("slip a;", 13), -7, 84);
        fault(times("slip a;", 12) + " slip ?;", -7, 85);
        fault(times("see 1 a;", 12), 0, NONE);
        fault(times("see 1 a;", 13), -7, 96);
        fault(times("salt a;", 5), 0, NONE);
        fault(times("salt a;", 6), -7, 35);
        fault(times("law 0;", 60), 0, NONE);
        fault(times("law 0;", 61), -7, 360);
        fault(times("law 0;", 60) + "atoms 2;", -7, 360);
        fault(times("law 0;", 60) + " slip a;", -7, 361);
        fault(times("law 0;", 60) + "laws 0;", -9, 360);
        fault(times("law 0;", 60) + ";", -9, 360);
        fault(times("law 0;", 60) + "   ", 0, NONE);
        fault("slip " + times("[", 6) + "a" + times("]", 6) + ";", 1, NONE);
        fault("slip " + times("[", 7) + "a" + times("]", 7) + ";", -7, 11);
        fault("slip " + times("not ", 6) + "a;", 1, NONE);
        fault("slip " + times("not ", 7) + "a;", -7, 29);
        fault("slip " + times("if a then ", 6) + "b;", 1, NONE);
        fault("slip " + times("if a then ", 7) + "b;", -7, 65);
        fault("slip " + times("if ", 6) + "a" + times(" then b", 6) + ";", 1, NONE);
        fault("slip " + times("if ", 7) + "a" + times(" then b", 7) + ";", -7, 23);
        fault("slip not [if not [if a then b] then c];", 1, NONE);
        fault("slip not [if not [if a then not b] then c];", -7, 28);
        fault("slip not a and not a and not a and not a and not a and not a and not a and not a;", 1, NONE);
        fault("slip [a] or [a] or [a] or [a] or [a] or [a] or [a] or [a];", 1, NONE);
        fault("slip not not not [[[a]]] and not not not [[[[a]]]];", -7, 44);
        fault("slip if a then b or if a then b or not not not not not not not a;", -7, 59);
    }

    private static void jarKeepsAndEmpties() {
        promise = 3;
        LotBeliefs x = with(FOUR);
        due(x.order(0x3210), 1);
        x.law(2);
        x.world(1);
        x.image();
        Feeder.question(x, "b");
        Feeder.tongue(x, "new 1=1;");
        int n = Feeder.feed(x, "slip a;law 7;");
        refused(ARGUMENT, () -> x.jar(-1));
        refused(ARGUMENT, () -> x.jar(21));
        due(x.count(1), 20);
        due(x.jar(n), -8);
        due(x.count(1), 0);
        due(x.fault(), 11);
        refused(ARGUMENT, () -> x.jar(1));
        due(x.fault(), 11);
        due(x.told(1), 4);
        due(x.at(0), 3);
        due(x.told(4), 1);
        due(x.told(5), 2);
        due(x.count(0), 1);
        due(x.proof(0), 4);
        due(x.judge(0, 1, 0, 0), 1);
        due(x.left(51), 10);
        due(Feeder.jar(x, "slip a;slip b;world 9;world 5;law 1;law 3;"), 2);
        due(x.fault(), NONE);
        due(x.at(0), 0);
        due(x.at(1), 1);
        due(x.at(2), NONE);
        due(x.told(0), 4);
        due(x.told(2), 0);
        due(x.told(4), 5);
        due(x.told(5), 3);
        due(x.count(0), 0);
        due(x.restore(), -1);
        due(x.proof(0), 0);
        due(x.judge(0, 1, 0, 0), 0);
        due(x.left(51), 65535);
        due(Feeder.feed(x, "slip a;slip b;"), 14);
        due(x.jar(7), 1);
        due(x.count(1), 0);
        due(x.jar(0), 0);
        due(x.told(4), 0);
        due(x.told(5), 0);
    }

    private static void question(LotBeliefs x, String text, int answer, int place) {
        due(Feeder.question(x, text), answer);
        due(x.fault(), place);
    }

    private static void tongue(LotBeliefs x, String text, int answer, int place) {
        int got = Feeder.tongue(x, text);
        checks++;
        if (got != answer || x.fault() != place) {
            wrong++;
            System.out.println("tongue " + text + ": " + got + " at " + x.fault() + ", due is " + answer + " at "
                    + place);
        }
    }

    private static void tonguesAndQuestions() {
        promise = 4;
        LotBeliefs x = with(FOUR);
        question(x, "b", 2, NONE);
        due(x.proof(0), 4);
        question(x, "c", -9, 0);
        due(x.proof(0), 4);
        due(x.count(1), 0);
        question(x, "", -9, 0);
        question(x, " a ", 2, NONE);
        question(x, "a;", -9, 1);
        question(x, "a b", -9, 2);
        question(x, "not not not not not not not a", -7, 24);
        question(x, "if a then b", 3, NONE);
        question(x, "a or a and not a", 2, NONE);
        question(x, "not a or b", 3, NONE);
        question(x, "if a then a and b", 2, NONE);
        question(x, "a and not a", 0, NONE);
        due(x.proof(0), NONE);
        refused(ARGUMENT, () -> x.question(1));
        refused(ARGUMENT, () -> x.question(-1));
        Feeder.feed(x, times(" ", 219) + "a");
        refused(ARGUMENT, () -> x.question(201));
        refused(ARGUMENT, () -> x.tongue(201));
        due(x.count(1), 220);
        due(x.question(200), -9);
        due(x.fault(), 200);
        due(x.count(1), 0);
        promise = 5;
        tongue(x, "", 0, NONE);
        tongue(x, "new 1<2;", 1, NONE);
        due(x.judge(0, 1, 0, 0), 1);
        tongue(x, "new 1<1000;", -8, 6);
        due(x.judge(0, 1, 0, 0), 1);
        tongue(x, "news 1<2;", -9, 0);
        tongue(x, "new 1<2", -9, 7);
        tongue(x, "new 1;", -9, 5);
        tongue(x, "new 1<2<3;", -9, 7);
        tongue(x, "new (1<2);", -9, 6);
        tongue(x, "new [1]<2;", -9, 6);
        tongue(x, "new new<2;", -9, 4);
        tongue(x, "new not 1<2 and [1=2 or 3>2];", 1, NONE);
        tongue(x, "new 1-2<3*(4+5)*age;old hurts=0;both olds>news;", 3, NONE);
        tongue(x, "new -1<2;", -9, 4);
        tongue(x, "new 1+<2;", -9, 6);
        tongue(x, "new 1!2;", -9, 5);
        tongue(x, "new (1<2;", -9, 6);
        tongue(x, "new 999=0999;", 1, NONE);
        tongue(x, "new 99999999999=1;", -8, 4);
        tongue(x, times("new 1=1;", 10), 10, NONE);
        tongue(x, times("new 1=1;", 11), -7, 80);
        tongue(x, times("new 1=1;", 10) + "news", -9, 80);
        tongue(x, "new " + times("(", 6) + "1" + times(")", 6) + "=1;", 1, NONE);
        tongue(x, "new " + times("(", 7) + "1" + times(")", 7) + "=1;", -7, 10);
        tongue(x, "new " + times("[", 6) + "1=1" + times("]", 6) + ";", 1, NONE);
        tongue(x, "new " + times("[", 7) + "1=1" + times("]", 7) + ";", -7, 10);
        tongue(x, "new " + times("not ", 7) + "1=1;", -7, 28);
        tongue(x, "new not [not [((1))=1]];", 1, NONE);
        tongue(x, "new not [not [(((1)))=1]];", -7, 16);
        refused(ARGUMENT, () -> x.tongue(1));
        refused(ARGUMENT, () -> x.tongue(-1));
        promise = 6;
        due(x.fault(), 16);
        tongue(x, "old 1=1;", 1, NONE);
        promise = 7;
        due(x.told(0), 2);
        due(x.told(1), 4);
        due(x.told(2), 1);
        due(x.told(3), 0);
        due(x.told(4), 3);
        due(x.told(5), 0);
        refused(ARGUMENT, () -> x.told(6));
        refused(ARGUMENT, () -> x.told(-1));
    }

    private static void slips() {
        promise = 8;
        LotBeliefs x = with(FOUR);
        due(x.models(0), 10);
        due(x.models(1), 5);
        due(x.models(2), 8);
        due(x.models(3), 14);
        refused(INDEX, () -> x.models(4));
        refused(INDEX, () -> x.models(-1));
        LotBeliefs six = with("atoms 6;slip a;slip b;slip c;slip d;slip e;slip f;slip not f;");
        for (int atom = 0; atom < 6; atom++) {
            long bits = 0;
            for (int w = 0; w < 64; w++) {
                bits |= (long) (w >> atom & 1) << w;
            }
            due(six.models(atom), bits);
        }
        due(six.models(6), 0xffffffffL);
        due(six.left(0), -1L);
        promise = 9;
        LotBeliefs s = with("atoms 2;salt a;see 9 a;see 3 not b;see 9 b;slip a and not a;");
        due(s.seen(0), 10);
        due(s.seen(1), 3);
        due(s.seen(2), 12);
        refused(INDEX, () -> s.seen(3));
        refused(INDEX, () -> s.seen(-1));
        promise = 10;
        due(s.left(0), 15);
        due(s.left(2), 15);
        due(s.left(3), 3);
        due(s.left(8), 3);
        due(s.left(9), 0);
        due(s.left(51), 0);
        refused(ARGUMENT, () -> s.left(52));
        refused(ARGUMENT, () -> s.left(-1));
        promise = 11;
        due(x.kin(0, 0), 0);
        due(x.kin(2, 0), 1);
        due(x.kin(0, 2), 2);
        due(x.kin(0, 1), 3);
        due(x.kin(1, 3), 4);
        refused(INDEX, () -> x.kin(4, 0));
        refused(INDEX, () -> x.kin(0, -1));
        LotBeliefs no = with("slip a and not a;slip b;slip c or not c;");
        due(no.kin(0, 1), 1);
        due(no.kin(1, 0), 2);
        due(no.kin(1, 2), 1);
        promise = 12;
        due(x.fallOut(0, 1, 0), true);
        due(x.fallOut(1, 3, 1), false);
        due(x.fallOut(1, 3, 2), true);
        due(x.fallOut(1, 1, 1), false);
        due(x.fallOut(1, 1, 2), true);
        refused(INDEX, () -> x.fallOut(4, 0, 99) ? 1 : 0);
        refused(INDEX, () -> x.fallOut(0, 4, 0) ? 1 : 0);
        refused(ARGUMENT, () -> x.fallOut(0, 1, 52) ? 1 : 0);
        refused(ARGUMENT, () -> x.fallOut(0, 1, -1) ? 1 : 0);
        promise = 13;
        due(x.truths(), 13);
        x.world(0);
        due(x.truths(), 2);
        promise = 14;
        due(x.dull(), 13);
        due(no.dull(), 7);
        due(with("slip a;slip not a or b;slip c;see 51 not a;see 4 a or b;").dull(), 6);
        due(with("slip a;slip not a or b;slip c;see 51 not a;see 4 a or not b;see 0 b;").dull(), 0);
        due(with("slip a;slip b;slip a and not a;see 3 a or b;see 2 not a or not b;").dull(), 3);
        due(with("slip a;see 40 b;see 3 not b;").dull(), 0);
    }

    private static void orderLawWorld() {
        promise = 15;
        LotBeliefs x = with(FOUR);
        due(x.order(0x3210), 1);
        due(x.at(0), 3);
        due(x.at(3), 0);
        due(x.order(0x0123), 1);
        due(x.at(0), 0);
        due(x.order(0x3211), 0);
        due(x.order(0x4321), 0);
        due(x.order(0x321), 1);
        due(x.order(0x210), 0);
        due(x.order(0x10321), 0);
        due(x.order(-1L), 0);
        due(x.order(0x8000000000000321L), 0);
        due(x.at(1), 3);
        LotBeliefs twelve = with(times("slip a;", 12));
        due(twelve.order(0xba9876543210L), 1);
        due(twelve.at(0), 11);
        due(twelve.at(11), 0);
        due(twelve.order(0xba9876543211L), 0);
        due(twelve.order(0xca9876543210L), 0);
        due(twelve.order(0x1ba9876543210L), 0);
        due(new LotBeliefs().order(0), 1);
        due(new LotBeliefs().order(1), 0);
        promise = 16;
        due(x.at(4), NONE);
        due(x.at(-1), NONE);
        promise = 17;
        due(x.law(4), 0);
        due(x.law(1), 4);
        due(x.told(5), 1);
        refused(ARGUMENT, () -> x.law(5));
        refused(ARGUMENT, () -> x.law(-1));
        due(x.told(5), 1);
        promise = 18;
        due(x.world(0), 3);
        due(x.world(2), 0);
        due(x.told(4), 2);
        refused(ARGUMENT, () -> x.world(4));
        refused(ARGUMENT, () -> x.world(-1));
        due(x.told(4), 2);
    }

    private static void year() {
        promise = 19;
        LotBeliefs x = with(FOUR);
        due(x.held(0), 1);
        due(x.held(1), 0);
        due(x.held(2), 4);
        due(x.held(3), 12);
        due(x.held(51), 12);
        refused(ARGUMENT, () -> x.held(52));
        refused(ARGUMENT, () -> x.held(-1));
        promise = 20;
        int[][] fates = {{0, 1, 1, 1, 0}, {1, 1, 0, 0, 0}, {2, NONE, NONE, 50, 0}, {3, NONE, NONE, 49, 0}};
        for (int slip = 0; slip < 4; slip++) {
            for (int what = 0; what < 5; what++) {
                due(x.fate(slip, what), fates[slip][what]);
            }
        }
        x.world(0);
        due(x.fate(0, 4), 1);
        due(x.fate(1, 4), 0);
        due(x.fate(2, 4), 50);
        promise = 21;
        due(x.year(3), 100);
        due(x.year(4), 0);
        x.world(3);
        due(x.year(0), 12);
        due(x.year(1), 2);
        due(x.year(2), 0);
        due(x.year(3), 0);
        due(x.year(4), 2);
        due(x.year(5), 1);
        x.law(1);
        due(x.held(1), 1);
        due(x.fate(1, 2), 0);
        due(x.fate(0, 1), NONE);
        due(x.year(0), 13);
        due(x.year(1), 1);
        x.law(2);
        due(x.held(1), 2);
        due(x.held(2), 4);
        due(x.fate(0, 2), 1);
        due(x.fate(1, 1), 2);
        due(x.fate(1, 2), NONE);
        due(x.fate(1, 3), 1);
        due(x.fate(1, 4), 1);
        due(x.year(1), 1);
        due(x.year(2), 1);
        due(x.year(3), 1);
        refused(INDEX, () -> x.fate(4, 9));
        refused(INDEX, () -> x.fate(-1, 0));
        refused(ARGUMENT, () -> x.fate(0, 5));
        refused(ARGUMENT, () -> x.fate(0, -1));
        refused(ARGUMENT, () -> x.year(6));
        refused(ARGUMENT, () -> x.year(-1));
        LotBeliefs three = with("atoms 3;slip a and b;slip not a;slip a and b and c;slip not b;law 3;");
        due(three.held(1), 2);
        due(three.fate(0, 2), 1);
        due(three.held(2), 2);
        due(three.fate(2, 2), 1);
        due(three.held(3), 10);
        LotBeliefs alike = with("slip a;slip not a;law 3;");
        due(alike.year(0), 1);
        LotBeliefs apart = with("slip a or b;slip not a;slip not b;");
        due(apart.year(0), 7);
        due(apart.year(5), 0);
        LotBeliefs many = with("atoms 2;slip a and b;slip a and not b;slip not a;law 2;");
        due(many.held(1), 2);
        due(many.held(2), 4);
        LotBeliefs gone = with("slip a;slip not a;see 0 a;see 5 not a;");
        due(gone.held(4), 1);
        due(gone.held(5), 0);
        due(gone.fate(0, 1), 5);
        due(gone.fate(1, 1), 1);
        due(gone.fate(1, 3), 0);
        due(gone.year(2), 2);
        due(gone.year(1), 0);
        due(gone.year(5), 0);
        LotBeliefs late = with("slip a;see 51 not a;world 1;");
        due(late.held(50), 1);
        due(late.held(51), 0);
        due(late.fate(0, 3), 51);
        promise = 22;
        due(with(FOUR).touchy(), 1);
        due(alike.touchy(), 1);
        due(new LotBeliefs().touchy(), 0);
        due(apart.touchy(), 0);
    }

    private static void allOrders() {
        LotBeliefs x = with(FOUR);
        LotBeliefs eight = with(EIGHT);
        promise = 23;
        due(x.ends(0), 3);
        due(x.ends(1), 8);
        due(x.ends(2), 2);
        refused(ARGUMENT, () -> x.ends(3));
        refused(ARGUMENT, () -> x.ends(-1));
        refused(STATE, () -> eight.ends(0));
        LotBeliefs pair = with("slip a;slip not a;law 1;");
        due(pair.ends(0), 2);
        due(pair.ends(1), 0);
        due(pair.ends(2), 0);
        pair.law(0);
        due(pair.ends(0), 1);
        due(pair.ends(2), 3);
        Feeder.tongue(pair, "new 1=1;");
        pair.law(4);
        due(pair.ends(0), 2);
        Feeder.tongue(pair, "both 1=1;");
        due(pair.ends(0), 1);
        Feeder.tongue(pair, "new 1=1;");
        due(pair.ends(0), 2);
        Feeder.tongue(pair, "old hurts=1;");
        due(pair.ends(0), 2);
        due(pair.ends(1), 0);
        due(pair.ends(2), 1);
        pair.world(1);
        due(pair.ends(2), 2);
        due(new LotBeliefs().ends(0), 1);
        LotBeliefs seven = with(times("slip a;", 7));
        due(seven.ends(0), 1);
        due(seven.ends(1), 127);
        promise = 24;
        due(seven.orders(6), 5040);
        due(x.orders(1), 0);
        due(x.orders(3), 24);
        refused(INDEX, () -> x.orders(4));
        refused(INDEX, () -> eight.orders(8));
        refused(STATE, () -> eight.orders(0));
        promise = 25;
        due(x.best(), 3);
        due(x.at(0), 0);
        due(x.at(1), 2);
        due(x.at(2), 1);
        due(x.at(3), 3);
        due(x.year(4), 3);
        due(x.order(0x3210), 1);
        x.world(0);
        due(x.best(), 0);
        due(x.at(0), 0);
        due(x.at(1), 1);
        LotBeliefs tie = with("slip a;slip not a;law 4;");
        Feeder.tongue(tie, "old oldn=1;");
        due(tie.best(), 0);
        due(tie.at(0), 0);
        refused(STATE, eight::best);
        due(eight.at(7), 7);
        due(new LotBeliefs().best(), 0);
        promise = 34;
        LotBeliefs c = with("slip a;slip not a;world 1;");
        due(c.compared(0), 0);
        due(c.compared(1), 1);
        due(c.compared(2), 1);
        due(c.compared(3), 1);
        due(c.compared(4), 0);
        due(c.told(5), 0);
        due(seven.compared(2), 0);
        seven.world(1);
        due(seven.compared(2), 7 * 5040);
        refused(ARGUMENT, () -> c.compared(5));
        refused(ARGUMENT, () -> c.compared(-1));
        refused(ARGUMENT, () -> eight.compared(5));
        refused(STATE, () -> eight.compared(0));
        promise = 45;
        LotBeliefs y = with(FOUR);
        due(y.worst(0), 2);
        due(y.worst(1), 0x1302);
        due(y.at(0), 0);
        y.world(0);
        due(y.worst(0), 52 + 51 + 50);
        due(y.worst(1), 0x0231);
        refused(ARGUMENT, () -> y.worst(2));
        refused(ARGUMENT, () -> y.worst(-1));
        refused(ARGUMENT, () -> eight.worst(2));
        refused(STATE, () -> eight.worst(0));
        due(new LotBeliefs().worst(1), 0);
    }

    private static void sets() {
        LotBeliefs x = with(FOUR);
        promise = 26;
        due(x.fits(0, 0), true);
        due(x.fits(13, 0), true);
        due(x.fits(3, 0), false);
        due(x.fits(10, 1), true);
        due(x.fits(10, 2), false);
        refused(ARGUMENT, () -> x.fits(16, 0) ? 1 : 0);
        refused(ARGUMENT, () -> x.fits(-1, 0) ? 1 : 0);
        refused(ARGUMENT, () -> x.fits(0, 52) ? 1 : 0);
        promise = 27;
        due(x.sets(0, 0), 10);
        due(x.sets(0, 1), 13);
        due(x.sets(0, 2), 2);
        due(x.sets(0, 3), 3);
        due(x.sets(2, 0), 8);
        due(x.sets(2, 1), 13);
        due(x.sets(2, 2), 1);
        due(x.sets(2, 3), 2);
        StringBuilder all = new StringBuilder();
        for (int w = 0; w < 12; w++) {
            all.append("slip ");
            for (int atom = 0; atom < 4; atom++) {
                all.append(atom > 0 ? " or " : "").append((w >> atom & 1) != 0 ? "not " : "");
                all.append((char) ('a' + atom));
            }
            all.append(';');
        }
        LotBeliefs needed = with(all + "see 1 not c or not d;");
        due(needed.sets(0, 3), NONE);
        due(needed.sets(0, 0), 4096);
        due(needed.sets(0, 2), 1);
        due(needed.sets(1, 0), 4095);
        due(needed.sets(1, 1), 2047);
        due(needed.sets(1, 2), 12);
        due(needed.sets(1, 3), 4095);
        due(needed.whole(1, 11), 4094);
        Feeder.question(needed, "c and d");
        due(needed.proof(0), 4095);
        due(needed.proof(1), NONE);
        refused(ARGUMENT, () -> x.sets(52, 0));
        refused(ARGUMENT, () -> x.sets(0, 4));
        refused(ARGUMENT, () -> x.sets(0, -1));
        LotBeliefs none = with("slip a;see 1 a;see 1 not a;");
        due(none.sets(0, 3), NONE);
        due(none.sets(1, 0), 0);
        due(none.sets(1, 1), NONE);
        due(none.sets(1, 2), 0);
        due(none.sets(1, 3), 0);
        LotBeliefs ties = with("slip a;slip not a;slip b;slip not b;");
        due(ties.sets(0, 1), 5);
        due(ties.sets(0, 2), 4);
        due(ties.sets(0, 3), 3);
        LotBeliefs twelve = with(times("slip a;", 11) + "slip not a;");
        due(twelve.sets(0, 0), 2049);
        due(twelve.sets(0, 1), 2047);
        due(twelve.sets(0, 3), 1 + 2048);
        promise = 28;
        due(x.whole(0, 0), 10);
        due(x.whole(0, 1), 13);
        due(x.whole(0, 2), NONE);
        due(x.whole(0, -1), NONE);
        due(x.whole(2, 0), 13);
        due(none.whole(1, 0), NONE);
        due(twelve.whole(0, 1), 2048);
        refused(ARGUMENT, () -> x.whole(52, 0));
        refused(ARGUMENT, () -> x.whole(-1, 0));
        promise = 29;
        due(x.proof(0), 0);
        due(none.proof(1), NONE);
        Feeder.question(x, "a or b");
        due(x.proof(0), 1);
        due(x.proof(2), 0);
        Feeder.question(x, "not a and not b");
        due(x.proof(0), NONE);
        LotBeliefs two = with("slip a or b;slip not a;slip not b or c;slip not a and c;");
        Feeder.question(two, "b");
        due(two.proof(0), 3);
        Feeder.question(two, "c and b");
        due(two.proof(0), 9);
        refused(ARGUMENT, () -> x.proof(52));
        refused(ARGUMENT, () -> x.proof(-1));
        promise = 30;
        due(x.split(0, 0), 0);
        due(x.split(0, 1), 2);
        due(x.split(2, 0), 1);
        due(x.split(2, 1), 1);
        due(none.split(1, 0), 0);
        due(none.split(1, 1), 0);
        due(none.split(0, 1), 8);
        refused(ARGUMENT, () -> x.split(52, 0));
        refused(ARGUMENT, () -> x.split(0, 2));
        refused(ARGUMENT, () -> x.split(0, -1));
        promise = 31;
        due(x.likely(0), 3);
        due(ties.likely(0), 0);
        due(none.likely(0), 1);
        due(none.likely(1), NONE);
        due(with("atoms 6;slip f and e;slip d;").likely(0), 56);
        refused(ARGUMENT, () -> x.likely(52));
        refused(ARGUMENT, () -> x.likely(-1));
        promise = 40;
        due(x.together(13, 0), 8);
        due(x.together(3, 0), 0);
        due(x.together(0, 0), 15);
        due(x.together(0, 2), 10);
        due(with("atoms 6;slip f;").together(1, 0), -1L << 32);
        refused(ARGUMENT, () -> x.together(16, 0));
        refused(ARGUMENT, () -> x.together(-1, 0));
        refused(ARGUMENT, () -> x.together(0, 52));
        promise = 41;
        due(x.following(4, 0), 13);
        due(x.following(0, 0), 0);
        due(x.following(0, 2), 9);
        due(x.following(3, 0), 15);
        due(none.following(0, 1), 1);
        refused(ARGUMENT, () -> x.following(16, 0));
        refused(ARGUMENT, () -> x.following(-1, 0));
        refused(ARGUMENT, () -> x.following(0, 52));
    }

    private static void salts() {
        promise = 32;
        LotBeliefs x = with("slip a;slip not a;salt b;salt not a;salt not a and b;law 1;");
        due(x.salted(0), 0);
        due(x.salted(1), 0);
        due(x.salted(2), 2);
        due(x.salted(3), NONE);
        refused(ARGUMENT, () -> x.salted(4));
        refused(ARGUMENT, () -> x.salted(-1));
        LotBeliefs late = with("slip a;slip not a;salt b;salt b;salt b;salt b;salt b;see 6 not a;law 1;");
        due(late.salted(2), 31);
        due(late.salted(1), NONE);
        late.law(2);
        due(late.salted(2), 0);
        LotBeliefs fifth = with("slip a;slip not a;salt b;salt b;salt b;salt b;salt b;law 4;");
        Feeder.tongue(fifth, "old week=6;both week<6;");
        due(fifth.salted(2), 31);
        Feeder.tongue(fifth, "old week=3;both 1=1;");
        due(fifth.salted(2), 3);
        LotBeliefs two = with("slip a;slip b;salt c;salt not c and a;salt not c;salt a;law 0;see 1 not a;");
        due(two.salted(2), 0);
        due(two.salted(1), NONE);
        LotBeliefs shift = with("slip a;slip not a;salt b;salt b;see 1 not a;");
        due(shift.salted(2), 0);
        shift.law(2);
        due(shift.fate(1, 1), NONE);
        promise = 33;
        due(x.salty(0), 1);
        due(x.salty(1), 1);
        due(x.salty(2), 2);
        due(x.salty(7), 2);
        refused(ARGUMENT, () -> x.salty(8));
        refused(ARGUMENT, () -> x.salty(-1));
        LotBeliefs week = with("slip a;slip not a;salt b;salt b;salt b;salt b;salt b;see 5 a;see 6 b;law 2;");
        due(week.salty(0), 0);
        due(week.salty(7), 0);
        due(week.salty(15), 1);
        due(week.salty(31), 1);
        due(week.year(0), 0);
        LotBeliefs said = with("slip a;slip c;salt b;salt not a;law 4;");
        Feeder.tongue(said, "old oldn=13 and newn=0 and week=1 and held=1 and age=1;");
        due(said.salty(2), 3);
        due(said.salty(3), 2);
        Feeder.tongue(said, "old oldn=13 and newn=0 and week=2 and held=2 and age=1;");
        due(said.salty(2), 2);
        due(said.salty(3), 3);
        refused(ARGUMENT, () -> new LotBeliefs().salty(1));
        due(new LotBeliefs().salty(0), 0);
    }

    private static void drawing() {
        LotBeliefs x = with(FOUR);
        LotBeliefs twelve = with(times("slip a;", 6) + times("slip not a;", 6) + "world 1;");
        promise = 36;
        int[] seeds = {0, 1, 5, 77, -1, Integer.MAX_VALUE, Integer.MIN_VALUE, 123456789};
        for (int seed : seeds) {
            for (int i = 0; i < 12; i++) {
                due(twelve.draw(seed, i), Edges.lot(12, seed)[i]);
            }
        }
        due(x.draw(5, 4), NONE);
        due(x.draw(5, -1), NONE);
        due(new LotBeliefs().draw(5, 0), NONE);
        due(with("slip a;").draw(9, 0), 0);
        x.order(0x3210);
        for (int i = 0; i < 4; i++) {
            due(x.draw(5, i), Edges.lot(4, 5)[i]);
            due(x.at(i), 3 - i);
        }
        promise = 35;
        x.order(0x0123);
        for (int law = 0; law < 4; law++) {
            int sum = 0;
            for (int i = 0; i < 60; i++) {
                int[] row = Edges.lot(4, 40 + i);
                LotBeliefs y = with(FOUR);
                y.order(row[0] << 12 | row[1] << 8 | row[2] << 4 | row[3]);
                y.law(law);
                sum += y.year(4);
            }
            due(x.drawn(law, 40, 60), sum);
        }
        due(x.told(5), 0);
        due(twelve.drawn(0, 1, 1), 0);
        refused(ARGUMENT, () -> x.drawn(5, 1, 1));
        refused(ARGUMENT, () -> x.drawn(-1, 1, 1));
        refused(ARGUMENT, () -> x.drawn(0, 1, 0));
        refused(ARGUMENT, () -> x.drawn(0, 1, 61));
        promise = 46;
        twelve.law(1);
        int first = 0;
        for (int i = 0; i < 60; i++) {
            first += Edges.lot(12, Integer.MAX_VALUE - 3 + i)[0] < 6 ? 1 : 0;
        }
        due(twelve.century(3, Integer.MAX_VALUE - 3, 60), first);
        due(twelve.century(9, Integer.MAX_VALUE - 3, 60), 60 - first);
        due(x.century(3, 5, 10), 10);
        due(x.century(1, 5, 10), 0);
        refused(INDEX, () -> x.century(4, 5, 99));
        refused(INDEX, () -> x.century(-1, 5, 1));
        refused(ARGUMENT, () -> x.century(0, 5, 0));
        refused(ARGUMENT, () -> x.century(0, 5, 61));
    }

    private static void schools() {
        LotBeliefs x = with(FOUR);
        promise = 37;
        due(x.school(0, 0), 1);
        due(x.school(0, 1), 1);
        due(x.school(0, 2), 5);
        due(x.school(1, 0), 0);
        due(x.school(1, 1), 2);
        due(x.school(1, 2), 0);
        due(x.school(1, 51), 8);
        refused(ARGUMENT, () -> x.school(2, 0));
        refused(ARGUMENT, () -> x.school(-1, 0));
        refused(ARGUMENT, () -> x.school(0, 52));
        promise = 38;
        due(x.right(0), 2);
        due(x.right(1), NONE);
        x.world(1);
        due(x.right(0), NONE);
        refused(ARGUMENT, () -> x.right(2));
        refused(ARGUMENT, () -> x.right(-1));
        due(with("atoms 1;see 7 a;world 1;").right(1), 7);
        promise = 50;
        due(x.war(0), 1);
        due(x.war(1), 1);
        LotBeliefs war = with("slip a;slip not a;");
        due(war.war(0), 51);
        due(war.war(1), 1);
        LotBeliefs nothing = with("slip a;see 0 b;see 0 not b;");
        due(nothing.war(0), 52);
        due(nothing.war(1), 0);
        due(with("slip a;slip b;").war(0), 0);
        due(with("slip a;slip b;").war(1), NONE);
        refused(ARGUMENT, () -> x.war(2));
        refused(ARGUMENT, () -> x.war(-1));
    }

    private static void killersAndQuarrels() {
        LotBeliefs x = with(FOUR);
        promise = 39;
        due(x.killer(1), NONE);
        due(x.killer(2), NONE);
        x.law(2);
        due(x.killer(1), 0);
        refused(INDEX, () -> x.killer(4));
        refused(INDEX, () -> x.killer(-1));
        LotBeliefs y = with("slip a;slip b;slip a and b;slip c and not c;see 9 not a;see 4 c;see 6 not b or not a;"
                + "see 6 not b;see 6 a;");
        due(y.killer(0), 0);
        due(y.killer(1), 3);
        due(y.killer(2), 2);
        due(y.killer(3), NONE);
        y.order(0x0123);
        due(with("slip a;slip b and not b;see 1 a;").killer(1), 0);
        due(with("slip a;slip b and not b;see 2 a;").killer(1), NONE);
        due(with("slip b and not b;").killer(0), NONE);
        promise = 42;
        x.law(0);
        due(x.eldest(0), 0);
        due(x.eldest(1), NONE);
        due(x.eldest(2), 2);
        due(x.eldest(51), 2);
        x.order(0x3210);
        due(x.eldest(0), 3);
        due(x.eldest(51), 3);
        refused(ARGUMENT, () -> x.eldest(52));
        refused(ARGUMENT, () -> x.eldest(-1));
        promise = 43;
        due(x.quarrels(0), 2);
        due(x.quarrels(2), 3);
        due(with("slip a;see 1 not a;").quarrels(1), 0);
        refused(ARGUMENT, () -> x.quarrels(52));
        refused(ARGUMENT, () -> x.quarrels(-1));
        promise = 44;
        due(x.peace(0), 13);
        due(x.peace(2), 13);
        due(with("slip a or b;slip not a;slip not b;").peace(0), 7);
        due(with("slip a;slip not a;").peace(0), 1);
        due(with("slip a;see 1 not a;").peace(1), 0);
        refused(ARGUMENT, () -> x.peace(52));
        refused(ARGUMENT, () -> x.peace(-1));
    }

    private static void knowing() {
        LotBeliefs x = with(FOUR);
        promise = 47;
        due(x.known(0, 1), 2);
        due(x.known(0, 2), 1);
        due(x.known(1, 2), 2);
        LotBeliefs y = with("atoms 3;see 1 not b;see 2 b;");
        due(y.known(1, 1), 0);
        due(y.known(1, 2), NONE);
        due(y.known(2, 1), 2);
        refused(ARGUMENT, () -> x.known(2, 0));
        refused(ARGUMENT, () -> x.known(-1, 0));
        refused(ARGUMENT, () -> x.known(0, 52));
        refused(ARGUMENT, () -> x.known(0, -1));
        promise = 49;
        due(x.asks(0), 3);
        due(x.asks(2), 2);
        x.world(0);
        due(x.asks(0), 3);
        due(x.asks(2), NONE);
        due(with("atoms 6;").asks(0), 63);
        due(with("atoms 1;see 3 a;world 1;").asks(3), 0);
        due(with("atoms 2;see 0 a or b;world 0;").asks(0), NONE);
        LotBeliefs tie = with("atoms 3;see 0 [a and b and c] or [not a and not b and c];world 7;");
        due(tie.asks(0), 1);
        refused(ARGUMENT, () -> x.asks(52));
        refused(ARGUMENT, () -> x.asks(-1));
    }

    private static void plain() {
        promise = 48;
        String[] sentences = {"a", "not a", "a and b", "a or not a", "a and not a", "[a or b] and not [a and b]",
            "if a then b", "a and [a or b]", "not a and not b", "a and b or not [a or b]", "not not b", "if a then a",
            "a and b or a and not b"};
        int[] due = {1, 2, 3, 4, 4, 8, 4, 1, 4, 8, 1, 4, 1};
        for (int i = 0; i < sentences.length; i++) {
            LotBeliefs two = with("atoms 2;slip " + sentences[i] + ";");
            due(two.plain(0), due[i]);
            LotBeliefs three = with("atoms 3;slip " + sentences[i] + ";");
            due(three.plain(0), due[i]);
            due(two.plain(0), due[i]);
        }
        LotBeliefs three = with("atoms 3;slip a and b and c;slip a and b or a and c;slip a and b or a and c or b and c;");
        due(three.plain(0), 5);
        due(three.plain(1), 5);
        due(three.plain(2), 9);
        LotBeliefs one = with("atoms 1;slip a;slip not a;slip a or not a;slip a and not a;");
        due(one.plain(0), 1);
        due(one.plain(1), 2);
        due(one.plain(2), 4);
        due(one.plain(3), 4);
        Feeder.jar(one, "atoms 2;slip b;");
        due(one.plain(0), 1);
        LotBeliefs four = with("slip a;");
        refused(STATE, () -> four.plain(0));
        refused(INDEX, () -> four.plain(1));
        refused(INDEX, () -> one.plain(-1));
    }

    private static void graves() {
        LotBeliefs x = with(FOUR);
        promise = 51;
        due(x.grave(0), 0);
        due(x.grave(1), 1);
        due(x.grave(2), NONE);
        due(x.grave(-1), NONE);
        LotBeliefs y = with("slip a;slip b;slip c;see 9 not a;see 9 not c;see 20 not b;");
        due(y.grave(0), 1);
        due(y.grave(1), 0);
        due(y.grave(2), 2);
        due(y.grave(3), NONE);
        promise = 52;
        due(x.canon(0), 12);
        due(x.canon(49), 12);
        due(x.canon(50), 4);
        due(x.canon(51), 0);
        due(x.canon(52), 0);
        due(with("slip a;world 1;").canon(52), 1);
        x.world(1);
        due(x.canon(0), 8);
        refused(ARGUMENT, () -> x.canon(53));
        refused(ARGUMENT, () -> x.canon(-1));
        promise = 53;
        x.world(3);
        due(x.swap(), 3);
        due(x.at(0), 0);
        due(x.at(3), 3);
        x.law(1);
        due(x.swap(), NONE);
        due(new LotBeliefs().swap(), NONE);
        LotBeliefs z = with("slip not a;slip a;slip not a;world 1;law 1;");
        due(z.swap(), 1);
        z.order(0x201);
        due(z.swap(), 2);
        LotBeliefs last = with("slip b;slip not a;slip a;world 1;law 1;");
        due(last.swap(), 2);
        promise = 54;
        due(x.humble(), 2);
        due(new LotBeliefs().humble(), 0);
        due(with("slip a;slip not a;").humble(), 1);
        due(with("slip a;see 30 not a;").humble(), 1);
        due(with("slip a;slip b;see 2 not a or not b;").humble(), 0);
        due(with("slip a;slip b;see 1 not a or not b;").humble(), 1);
        due(with("slip c;slip a;slip b;see 2 not a or not b;").humble(), 1);
        due(with("slip a;slip b;slip not b;slip c;see 51 b;").humble(), 4);
        LotBeliefs move = with("slip a;slip b;slip not b or c;slip not a or not b;see 2 b;see 3 not c;");
        due(move.humble(), 4 + 1);
    }

    private static void said(LotBeliefs x, String when) {
        due(Feeder.tongue(x, "old " + when + ";"), 1);
        due(x.year(0), 2);
        due(Feeder.tongue(x, "old not " + when + ";"), 1);
        due(x.year(0), 0);
    }

    private static void tongueValues() {
        promise = 55;
        LotBeliefs x = with("atoms 2;slip a and b;slip not a;law 4;world 0;see 1 a or b;");
        due(x.year(0), 0);
        said(x, "age=1");
        said(x, "hurts=1");
        said(x, "olds=1");
        said(x, "news=2");
        said(x, "oldn=0");
        said(x, "newn=1");
        said(x, "week=1");
        said(x, "held=1");
        said(x, "left=3");
        said(x, "shared=0");
        x.world(3);
        said(x, "hurts=0");
        Feeder.tongue(x, "new 1=2;new 1>2;old 3<2;");
        due(x.judge(0, 1, 0, 0), 0);
        Feeder.tongue(x, "both age=0;new age<10;old age>9;");
        due(x.judge(0, 1, 0, 0), 0);
        due(x.judge(0, 1, 9, 0), 1);
        due(x.judge(0, 1, 10, 0), 2);
        due(x.judge(0, 1, 52, 0), 2);
        Feeder.tongue(x, "old 2+3*4-1=13 and 10-2-3=5 and 2*(3+4)=14;new 1=1;");
        due(x.judge(0, 0, 0, 0), 2);
        Feeder.tongue(x, "old 999*999*999*999=" + "0+(0-1)*1;new 999*999*999*999<0;");
        int wrapped = 999 * 999 * 999 * 999;
        due(x.judge(0, 0, 0, 0), wrapped == -1 ? 2 : wrapped < 0 ? 1 : 0);
        Feeder.tongue(x, "old held=1 and hurts=0 and shared=1 and left=4 and week=0;new left=3 and week=1;");
        due(x.judge(0, 0, 3, 0), 2);
        due(x.judge(1, 1, 3, 1), 1);
        due(x.judge(1, 1, 3, 0), 0);
        Feeder.tongue(x, "old 1=1 or 1=1 and 1=2;");
        due(x.judge(0, 1, 0, 0), 2);
        Feeder.tongue(x, "old [1=1 or 1=1] and 1=2;");
        due(x.judge(0, 1, 0, 0), 0);
        Feeder.tongue(x, "old not 1=1 or 1=1;");
        due(x.judge(0, 1, 0, 0), 2);
        Feeder.tongue(x, "");
        due(x.judge(0, 1, 0, 0), 0);
        refused(INDEX, () -> x.judge(2, 0, 99, 99));
        refused(INDEX, () -> x.judge(0, 2, 0, 0));
        refused(INDEX, () -> x.judge(-1, 0, 0, 0));
        refused(ARGUMENT, () -> x.judge(0, 1, 53, 0));
        refused(ARGUMENT, () -> x.judge(0, 1, -1, 0));
        refused(ARGUMENT, () -> x.judge(0, 1, 0, 52));
        refused(ARGUMENT, () -> x.judge(0, 1, 0, -1));
        LotBeliefs held = with("slip a;slip b;slip c;slip not a and not c;slip not b;law 4;");
        Feeder.tongue(held, "old held=3;new held=2;");
        due(held.held(3), 6);
        due(held.fate(0, 2), 3);
        due(held.fate(3, 2), 2);
        due(held.fate(2, 1), NONE);
        due(held.fate(4, 2), 1);
        due(held.held(4), 6);
    }

    private static void images() {
        promise = 56;
        LotBeliefs x = with(FOUR);
        due(x.image(), 1);
        x.order(0x3210);
        x.law(1);
        x.world(2);
        due(x.image(), 2);
        x.order(0x1032);
        x.law(2);
        x.world(1);
        due(x.image(), 3);
        due(x.image(), -1);
        due(x.count(0), 3);
        x.order(0x2301);
        x.law(3);
        x.world(0);
        promise = 57;
        due(x.restore(), 2);
        due(x.at(0), 1);
        due(x.told(5), 2);
        due(x.told(4), 1);
        due(x.restore(), 1);
        due(x.at(0), 3);
        due(x.told(5), 1);
        due(x.told(4), 2);
        due(x.image(), 2);
        due(x.restore(), 1);
        due(x.restore(), 0);
        due(x.at(0), 0);
        due(x.told(5), 0);
        due(x.told(4), 3);
        due(x.restore(), -1);
        due(x.told(4), 3);
        due(x.count(0), 0);
        Feeder.tongue(x, "old 1=1;");
        x.image();
        Feeder.tongue(x, "new 1=1;");
        x.restore();
        due(x.judge(0, 1, 0, 0), 1);
    }

    private static void refusals() {
        promise = 58;
        LotBeliefs x = with(EIGHT);
        due(x.status(0), 0);
        refused(INDEX, () -> x.models(8));
        refused(INDEX, () -> x.fate(8, 9));
        refused(INDEX, () -> x.orders(8));
        refused(ARGUMENT, () -> x.left(52));
        refused(ARGUMENT, () -> x.jar(1));
        refused(STATE, x::best);
        x.image();
        refused(STATE, () -> x.plain(0));
        refused(STATE, () -> x.worst(1));
        x.restore();
        due(x.status(0), 3);
        due(x.status(1), 2);
        due(x.status(2), 3);
        due(x.status(3), NONE);
        due(x.status(-1), NONE);
        x.order(99);
        x.at(99);
        Feeder.jar(x, "law 9;");
        due(x.status(1), 2);
        Feeder.jar(x, "");
        due(x.status(0), 3);
        promise = 59;
        due(x.count(0), 0);
        due(x.count(1), 0);
        x.feed(0, 0, 0, 0, 0);
        due(x.count(1), 20);
        due(x.count(2), NONE);
        due(x.count(-1), NONE);
    }
}
