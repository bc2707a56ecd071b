/** The edges of what a TONGUE tells: its values, its rules, LAW 4 and promise 55. */
public final class TongueEdgeTest {
    /** Two SLIPS that FALL OUT; the old one has one MODEL of four, the new one two; three WORLDS are LEFT in WEEK 1. */
    private static final String PAIR = "atoms 2;slip a and b;slip not a;law 4;world 0;see 1 a or b;";

    public static void main(String[] args) {
        rules();
        sentences();
        reckoning();
        wrapping();
        ages();
        hurts();
        models();
        numbers();
        weeksAndLeft();
        heldNow();
        shared();
        judge();
        Edges.done();
    }

    /** Whether G is so for SLIPS 0 and 1, age 3, WEEK 0. */
    private static void holds(LotBeliefs x, String g, boolean want) {
        if (Feeder.tongue(x, "old " + g + ";new 1=1;") != 2) {
            Edges.fail("is not read, fault at " + x.fault() + ": " + g);
        }
        int got = x.judge(0, 1, 3, 0);
        if (got != (want ? 2 : 1)) {
            Edges.fail(g + ": " + got);
        }
    }

    /** That E has this value as the old one and the new one meet; by judge. */
    private static void judged(LotBeliefs x, String e, int old, int slip, int age, int week, int want) {
        Feeder.tongue(x, "old " + e + "=" + want + ";new 1=1;");
        Edges.due(x.judge(old, slip, age, week), 2);
        Feeder.tongue(x, "old not " + e + "=" + want + ";new 1=1;");
        Edges.due(x.judge(old, slip, age, week), 1);
    }

    /** That E has this value in the YEAR, as the SLIP falls or makes an old one fall. */
    private static void lived(LotBeliefs x, String e, int want, int endIfSo, int endIfNot) {
        Feeder.tongue(x, "old " + e + "=" + want + ";new 1=1;");
        Edges.due(x.year(0), endIfSo);
        Feeder.tongue(x, "old not " + e + "=" + want + ";new 1=1;");
        Edges.due(x.year(0), endIfNot);
    }

    private static void rules() {
        LotBeliefs x = Edges.with("slip a;slip not a;law 4;");
        Edges.of("T by LAW 4 the first WHO whose G is so falls", () -> {
            String[] texts = {"new 1=1;old 1=1;", "old 1=1;new 1=1;", "both 1=1;new 1=1;", "new 1=2;old 1=1;both 1=1;",
                "new 1=2;both 1=1;old 1=1;", "old 1=2;".repeat(9) + "new 1=1;"};
            int[] due = {1, 2, 0, 2, 0, 1};
            int[] ends = {1, 2, 0, 2, 0, 1};
            for (int i = 0; i < texts.length; i++) {
                Feeder.tongue(x, texts[i]);
                Edges.due(x.judge(0, 1, 0, 0), due[i]);
                Edges.due(x.year(0), ends[i]);
            }
        });
        Edges.of("T none is so: both", () -> {
            for (String text : new String[] {"", "new 1=2;", "old 1=2;new 2<1;", "new 1=2;".repeat(10)}) {
                Feeder.tongue(x, text);
                Edges.due(x.judge(0, 1, 0, 0), 0);
                Edges.due(x.year(0), 0);
            }
        });
        Edges.of("T a TONGUE behind another one", () -> {
            Feeder.tongue(x, "old 1=1;".repeat(10));
            Edges.due(x.judge(0, 1, 0, 0), 2);
            Feeder.tongue(x, "new 1=1;");
            Edges.due(x.judge(0, 1, 0, 0), 1);
            Feeder.tongue(x, "new 1=2;");
            Edges.due(x.judge(0, 1, 0, 0), 0);
        });
    }

    private static void sentences() {
        LotBeliefs x = Edges.with("slip a;slip not a;");
        Edges.of("T R: <, > or =", () -> {
            holds(x, "1<2", true);
            holds(x, "2<2", false);
            holds(x, "3<2", false);
            holds(x, "1>2", false);
            holds(x, "2>2", false);
            holds(x, "3>2", true);
            holds(x, "1=2", false);
            holds(x, "2=2", true);
            holds(x, "0-1<0", true);
            holds(x, "0-1>0", false);
            holds(x, "0<0-1", false);
        });
        Edges.of("T each R with not, and, or", () -> {
            for (String so : new String[] {"1<2", "2>1", "3=3", "not 2<1", "not 1>2", "not 1=2"}) {
                for (String too : new String[] {"1<2", "2>1", "3=3", "not 2<1", "not 1>2", "not 1=2"}) {
                    holds(x, so + " and " + too, true);
                    holds(x, "not [" + so + " and " + too + "]", false);
                    holds(x, so + " and not [" + too + "]", false);
                    holds(x, "not [" + so + "] or " + too, true);
                    holds(x, "not [" + so + "] or not [" + too + "]", false);
                }
            }
        });
        Edges.of("T G: H or H; H: I and I; I: not I, [ G ]", () -> {
            holds(x, "1=1 or 1=1 and 1=2", true);
            holds(x, "[1=1 or 1=1] and 1=2", false);
            holds(x, "1=2 and 1=1 or 1=1", true);
            holds(x, "1=2 and [1=1 or 1=1]", false);
            holds(x, "not 1=1 or 1=1", true);
            holds(x, "not [1=1 or 1=1]", false);
            holds(x, "not 1=2 and 1=2", false);
            holds(x, "not [1=2 and 1=2]", true);
            holds(x, "not not 1=1", true);
            holds(x, "not not not 1=1", false);
            holds(x, "1=2 or 1=2 or 1=1", true);
            holds(x, "1=1 and 1=1 and 1=2", false);
            holds(x, "1=2 or 1=2", false);
        });
    }

    private static void reckoning() {
        LotBeliefs x = Edges.with("slip a;slip not a;");
        Edges.of("T E: T + or - T, from the left", () -> {
            holds(x, "10-3-2=5", true);
            holds(x, "10-(3-2)=9", true);
            holds(x, "10-3+2=9", true);
            holds(x, "10-(3+2)=5", true);
            holds(x, "1+2+3+4=10", true);
            holds(x, "2-3<0", true);
        });
        Edges.of("T T: U * U, ahead of + and -", () -> {
            holds(x, "2+3*4=14", true);
            holds(x, "2*3+4=10", true);
            holds(x, "(2+3)*4=20", true);
            holds(x, "20-2*3*3=2", true);
            holds(x, "2*3*4=24", true);
            holds(x, "7*0=0", true);
            holds(x, "(0-2)*(0-3)=6", true);
        });
        Edges.of("T N: 0 to 999 stand for themselves", () -> {
            holds(x, "0=0", true);
            holds(x, "999+1=1*10*100", true);
            holds(x, "999-998=1", true);
            holds(x, "007=7", true);
        });
        Edges.of("T E: on both sides of R", () -> {
            holds(x, "1+1=3-1", true);
            holds(x, "(((1)))=((1))", true);
            holds(x, "age+age>age", true);
            holds(x, "age-age=0", true);
        });
    }

    private static void wrapping() {
        LotBeliefs x = Edges.with("slip a;slip not a;");
        String root = "(999*46+386)";
        String most = root + "*" + root + "+999*88+135";
        Edges.of("T VALUES are whole numbers of 32 bits: the greatest", () -> {
            holds(x, most + ">0", true);
            holds(x, most + "-1<" + most, true);
        });
        Edges.of("T VALUES wrap: + and -", () -> {
            holds(x, most + "+1<0", true);
            holds(x, "0-(" + most + ")-1<0", true);
            holds(x, "0-(" + most + ")-2>0", true);
            holds(x, "0-(" + most + ")-2=" + most, true);
        });
        Edges.of("T VALUES wrap: *", () -> {
            holds(x, "(999*46+387)*(999*46+387)<0", true);
            holds(x, "256*256*256*256=0", true);
            holds(x, "256*256*256*128<0", true);
            holds(x, "256*256*256*128-1=" + most, true);
            holds(x, "999*999*999*999<0", 999 * 999 * 999 * 999 < 0);
        });
    }

    private static void ages() {
        Edges.of("T age: WEEKS for which the old one was held", () -> {
            LotBeliefs x = Edges.with(PAIR);
            lived(x, "age", 1, 2, 1);
            LotBeliefs y = Edges.with("slip a;" + "slip b;".repeat(10) + "slip not a;law 4;");
            lived(y, "age", 11, 4094, 2047);
            y.order(0x123456789A0BL);
            lived(y, "age", 1, 4094, 2047);
        });
        Edges.of("55 age: 0 to 52", () -> {
            LotBeliefs x = Edges.with(PAIR);
            for (int age = 0; age <= 52; age++) {
                judged(x, "age", 0, 1, age, 0, age);
            }
        });
    }

    private static void hurts() {
        Edges.of("T hurts: how often the old one hurt", () -> {
            LotBeliefs x = Edges.with(PAIR);
            lived(x, "hurts", 1, 2, 1);
            x.world(3);
            lived(x, "hurts", 0, 2, 1);
            LotBeliefs y = Edges.with("slip a;" + "slip b;".repeat(10) + "slip not a;law 4;");
            lived(y, "hurts", 11, 4094, 2047);
            y.world(1);
            lived(y, "hurts", 0, 4094, 2047);
        });
        Edges.of("55 never hurt, though it is not so in the world that IS", () -> {
            LotBeliefs x = Edges.with(PAIR);
            judged(x, "hurts", 0, 1, 52, 0, 0);
            judged(x, "hurts", 1, 0, 52, 51, 0);
        });
    }

    private static void models() {
        Edges.of("T olds, news: MODELS of the old, the new one", () -> {
            LotBeliefs x = Edges.with(PAIR);
            lived(x, "olds", 1, 2, 1);
            lived(x, "news", 2, 2, 1);
            judged(x, "olds", 1, 0, 0, 51, 2);
            judged(x, "news", 1, 0, 0, 51, 1);
        });
        Edges.of("T olds, news: none to all 64", () -> {
            LotBeliefs x = Edges.with("atoms 6;slip a and not a;slip a or not a;slip f;");
            judged(x, "olds", 0, 1, 0, 0, 0);
            judged(x, "news", 0, 1, 0, 0, 64);
            judged(x, "olds", 1, 2, 0, 0, 64);
            judged(x, "news", 1, 2, 0, 0, 32);
            judged(x, "news", 1, 0, 0, 0, 0);
        });
        Edges.of("T olds, news: of a SALT too", () -> {
            LotBeliefs x = Edges.with("atoms 3;slip not a;salt a and b and c;law 4;", "old olds=1 and news=4;new 1=1;");
            Edges.due(x.salty(1), 1);
        });
    }

    private static void numbers() {
        Edges.of("T oldn, newn: their numbers", () -> {
            LotBeliefs x = Edges.with(PAIR);
            lived(x, "oldn", 0, 2, 1);
            lived(x, "newn", 1, 2, 1);
            LotBeliefs y = Edges.with("slip b;".repeat(11) + "slip a;");
            for (int old = 0; old < 12; old++) {
                judged(y, "oldn", old, 11 - old, 0, 0, old);
                judged(y, "newn", old, 11 - old, 0, 0, 11 - old);
            }
        });
        Edges.of("T oldn, newn of a SALT: 12 and its own", () -> {
            for (int salt = 0; salt < 5; salt++) {
                LotBeliefs x = Edges.with("slip not a;" + "salt b;".repeat(salt) + "salt a;" + "salt b;".repeat(4 - salt)
                        + "law 4;", "old oldn=" + (12 + salt) + " and newn=0;new 1=1;");
                Edges.due(x.salty(31), 1);
                Edges.due(x.salty(1 << salt), 1);
                Feeder.tongue(x, "new oldn=" + (12 + salt) + ";");
                Edges.due(x.salty(31), 0);
            }
            LotBeliefs two = Edges.with("slip b;salt a;salt not a;law 4;", "new oldn=12 and newn=13;old 1=1;");
            Edges.due(two.salty(3), 1);
            LotBeliefs last = Edges.with("slip a;salt a;salt b;salt c;salt d;salt not a;law 4;", "new newn=16;old 1=1;");
            Edges.due(last.salty(31), 1);
            Feeder.tongue(last, "old newn=16;new 1=1;");
            Edges.due(last.salty(31), 0);
        });
    }

    private static void weeksAndLeft() {
        Edges.of("T week", () -> {
            LotBeliefs x = Edges.with(PAIR);
            lived(x, "week", 1, 2, 1);
            for (int week = 0; week < 52; week++) {
                judged(x, "week", 0, 1, 5, week, week);
            }
            LotBeliefs y = Edges.with("slip b;".repeat(10) + "slip a;slip not a;law 4;");
            lived(y, "week", 11, 4095 - 1024, 2047);
        });
        Edges.of("T week of the twelfth SLIP behind five SALTS", () -> {
            LotBeliefs x = Edges.with("slip b;".repeat(10) + "slip a;slip not a;" + "salt c;".repeat(5) + "law 4;",
                    "old week=16;new 1=1;");
            Edges.due(x.salty(31), 4095 - 1024);
            Edges.due(x.salty(15), 2047);
        });
        Edges.of("T left: how many WORLDS, in the WEEK", () -> {
            LotBeliefs x = Edges.with(PAIR);
            lived(x, "left", 3, 2, 1);
            judged(x, "left", 0, 1, 0, 0, 4);
            judged(x, "left", 0, 1, 0, 1, 3);
            judged(x, "left", 0, 1, 0, 51, 3);
            LotBeliefs y = Edges.with("atoms 6;slip a;see 50 f;see 51 a;see 51 not a;");
            judged(y, "left", 0, 0, 0, 49, 64);
            judged(y, "left", 0, 0, 0, 50, 32);
            judged(y, "left", 0, 0, 0, 51, 0);
        });
    }

    private static void heldNow() {
        Edges.of("T held: how many are held as they meet", () -> {
            LotBeliefs x = Edges.with(PAIR);
            lived(x, "held", 1, 2, 1);
            LotBeliefs y = Edges.with("slip b;".repeat(10) + "slip a;slip not a;law 4;");
            lived(y, "held", 11, 4095 - 1024, 2047);
        });
        Edges.of("T held: one less when an old one has fallen", () -> {
            LotBeliefs x = Edges.with("slip a;slip b;slip c;slip not a and not c;law 4;", "old held=3;new held=2;");
            Edges.due(x.year(0), 6);
            Feeder.tongue(x, "old held=3 or held=2;new 1=1;");
            Edges.due(x.year(0), 10);
        });
        Edges.of("T held: SALTS among them, those KILLED not", () -> {
            LotBeliefs x = Edges.with("slip a;slip not a;salt b;salt c;see 3 not c;law 4;", "old held=2;new 1=1;");
            Edges.due(x.salty(1), 2);
            Edges.due(x.salty(3), 2);
            Edges.due(x.salty(0), 1);
        });
        Edges.of("55 none held besides", () -> {
            LotBeliefs x = Edges.with("slip a;slip b;slip c;slip d;");
            judged(x, "held", 0, 3, 9, 9, 1);
        });
    }

    private static void shared() {
        Edges.of("T shared: WORLDS of all in which both are so, though they are not LEFT", () -> {
            LotBeliefs x = Edges.with("slip a;slip b;see 1 not a or not b;law 4;");
            lived(x, "shared", 4, 2, 1);
            judged(x, "shared", 0, 1, 0, 0, 4);
            judged(x, "shared", 0, 1, 0, 51, 4);
            LotBeliefs y = Edges.with("atoms 6;slip a or not a;slip f;slip a and not a;");
            judged(y, "shared", 0, 0, 0, 0, 64);
            judged(y, "shared", 0, 1, 0, 0, 32);
            judged(y, "shared", 0, 2, 0, 0, 0);
        });
    }

    private static void judge() {
        Edges.of("55 0 both, 1 the new, 2 the old one", () -> {
            LotBeliefs x = Edges.with(PAIR, "both age=0;new age=1;old age=2;");
            Edges.row(age -> x.judge(0, 1, age, 0), 0, 1, 2, 0);
        });
        Edges.of("55 whether they FALL OUT or not, by any LAW", () -> {
            for (int law = 0; law < 5; law++) {
                LotBeliefs x = Edges.with("slip a;slip a;slip not a;slip b and not b;law " + law + ";", "old 1=1;");
                Edges.due(x.judge(0, 1, 0, 0), 2);
                Edges.due(x.judge(0, 2, 0, 0), 2);
                Edges.due(x.judge(3, 3, 0, 0), 2);
                Edges.due(x.judge(1, 1, 0, 0), 2);
            }
        });
        Edges.of("55 without a TONGUE: both", () -> Edges.due(Edges.with("slip a;law 2;").judge(0, 0, 0, 0), 0));
        Edges.of("55 whatever the ORDER and the YEAR", () -> {
            LotBeliefs x = Edges.with("slip a;slip b;see 0 not a;", "old age=9 and week=0 and held=1;");
            x.order(0x10);
            Edges.due(x.judge(0, 1, 9, 0), 2);
            Edges.due(x.judge(1, 0, 9, 0), 2);
        });
        Edges.of("55 IndexOutOfBoundsException ahead of others; age 0 to 52, WEEK 0 to 51", () -> {
            LotBeliefs x = Edges.with(PAIR);
            Edges.numbered(x, 2, i -> x.judge(i, 0, 0, 0));
            Edges.numbered(x, 2, i -> x.judge(0, i, 0, 0));
            Edges.numbered(x, 2, i -> x.judge(i, 0, 53, 0));
            Edges.numbered(x, 2, i -> x.judge(0, i, 0, 52));
            Edges.between(x, 0, 52, age -> x.judge(0, 1, age, 0));
            Edges.between(x, 0, 51, week -> x.judge(0, 1, 0, week));
        });
    }
}
