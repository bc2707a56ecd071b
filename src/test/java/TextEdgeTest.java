import java.util.function.BiFunction;

/** The edges of texts: TAPE, JAR, QUESTION, TONGUE and their FAULTS (promises 1 to 7). */
public final class TextEdgeTest {
    private static final int NONE = Edges.NONE;
    private static final int[] WIDE = {-1, Integer.MIN_VALUE, Integer.MAX_VALUE};

    public static void main(String[] args) {
        newObject();
        emptyYear();
        emptySets();
        feed();
        bytesOfTheTape();
        longestTexts();
        whatAJarEmpties();
        clauses();
        clauseNumbers();
        atomsClause();
        worldAndLaw();
        atomsOfSentences();
        sentences();
        spelling();
        places();
        openInSentences();
        leastFault();
        questions();
        tongues();
        tongueNumbers();
        openInTongues();
        faultPlace();
        told();
        Edges.done();
    }

    // ---- reading, with a bar where the fault is due ----

    private static void reads(BiFunction<LotBeliefs, String, Integer> as, LotBeliefs x, String text, int want) {
        int got = as.apply(x, text);
        if (got != want || x.fault() != NONE) {
            Edges.fail(text + " answered " + got + " at " + x.fault() + ", due is " + want);
        }
    }

    private static void fails(BiFunction<LotBeliefs, String, Integer> as, LotBeliefs x, String barred, int fault) {
        int place = barred.indexOf('|');
        String text = barred.substring(0, place) + barred.substring(place + 1);
        int got = as.apply(x, text);
        if (got != fault - 10 || x.fault() != place) {
            Edges.fail(barred + " answered " + got + " at " + x.fault() + ", due is " + (fault - 10));
        }
    }

    private static void jar(String text, int slips) {
        reads(Feeder::jar, new LotBeliefs(), text, slips);
    }

    private static void jarFault(String barred, int fault) {
        fails(Feeder::jar, new LotBeliefs(), barred, fault);
    }

    private static void question(String jar, String text, int models) {
        reads(Feeder::question, Edges.with(jar), text, models);
    }

    private static void questionFault(String jar, String barred, int fault) {
        fails(Feeder::question, Edges.with(jar), barred, fault);
    }

    private static void tongue(String text, int rules) {
        reads(Feeder::tongue, new LotBeliefs(), text, rules);
    }

    private static void tongueFault(String barred, int fault) {
        fails(Feeder::tongue, new LotBeliefs(), barred, fault);
    }

    /** MODELS of a sentence over two ATOMS (a: 10, b: 12). */
    private static void so(String sentence, long models) {
        Edges.due(Edges.with("atoms 2;slip " + sentence + ";").models(0), models);
    }

    private static String many(String s, int times) {
        return s.repeat(times);
    }

    // ---- promise 1 ----

    private static void newObject() {
        Edges.of("1 a JAR without CLAUSES: 4 ATOMS, nothing else told", () ->
                Edges.row(new LotBeliefs()::told, 4, 0, 0, 0, 0, 0));
        Edges.of("1 a JAR without CLAUSES: no SLIPS, SEEINGS", () -> {
            LotBeliefs x = new LotBeliefs();
            Edges.numbered(x, 0, x::models);
            Edges.numbered(x, 0, x::seen);
            Edges.numbered(x, 0, i -> x.kin(i, i));
            Edges.numbered(x, 0, i -> x.fallOut(i, i, 0) ? 1 : 0);
            Edges.numbered(x, 0, i -> x.fate(i, 0));
            Edges.numbered(x, 0, x::orders);
            Edges.numbered(x, 0, x::killer);
            Edges.numbered(x, 0, i -> x.century(i, 1, 1));
            Edges.numbered(x, 0, x::plain);
            Edges.numbered(x, 0, i -> x.judge(i, i, 0, 0));
            Edges.due(x.truths(), 0);
            Edges.due(x.dull(), 0);
        });
        Edges.of("1 a JAR without CLAUSES: no bits of SLIPS or SALTS", () -> {
            LotBeliefs x = new LotBeliefs();
            Edges.between(x, 0, 0, x::salty);
            Edges.between(x, 0, 0, x::salted);
            Edges.between(x, 0, 0, i -> x.fits(i, 0) ? 1 : 0);
            Edges.between(x, 0, 0, i -> x.together(i, 0));
            Edges.between(x, 0, 0, i -> x.following(i, 0));
        });
        Edges.of("1 a JAR without CLAUSES: all WORLDS are LEFT", () -> {
            LotBeliefs x = new LotBeliefs();
            for (int week = 0; week < 52; week++) {
                Edges.due(x.left(week), 65535);
            }
        });
        Edges.of("1 no QUESTION: it is always so", () -> {
            LotBeliefs x = new LotBeliefs();
            for (int week = 0; week < 52; week++) {
                Edges.due(x.proof(week), 0);
            }
        });
        Edges.of("1 no TAPE, no IMAGES, no FAULT, nothing refused", () -> {
            LotBeliefs x = new LotBeliefs();
            Edges.row(x::count, 0, 0);
            Edges.row(x::status, 0, 0, 0);
            Edges.due(x.fault(), NONE);
            Edges.due(x.restore(), -1);
        });
        Edges.of("1 one object knows nothing of another one", () -> {
            LotBeliefs x = Edges.with("atoms 1;slip a;see 0 a;salt a;world 1;law 2;", "old 1=1;");
            x.image();
            Feeder.feed(x, "a");
            LotBeliefs y = new LotBeliefs();
            Edges.row(y::told, 4, 0, 0, 0, 0, 0);
            Edges.row(y::count, 0, 0);
            Edges.row(x::told, 1, 1, 1, 1, 1, 2);
            Edges.row(x::count, 1, 20);
        });
    }

    private static void emptyYear() {
        Edges.of("1 the YEAR of a JAR without CLAUSES", () -> {
            LotBeliefs x = new LotBeliefs();
            Edges.row(x::year, 0, 0, 0, 0, 0, 1);
            for (int week = 0; week < 52; week++) {
                Edges.due(x.held(week), 0);
                Edges.due(x.eldest(week), NONE);
                Edges.due(x.school(0, week), 0);
                Edges.due(x.school(1, week), 0);
            }
            Edges.due(x.touchy(), 0);
            Edges.due(x.grave(0), NONE);
            Edges.due(x.canon(0), 0);
            Edges.row(x::war, 0, NONE);
            Edges.row(x::right, NONE, NONE);
        });
        Edges.of("1 the ORDER of a JAR without CLAUSES: one, without SLIPS", () -> {
            LotBeliefs x = new LotBeliefs();
            Edges.due(x.at(0), NONE);
            Edges.due(x.order(0), 1);
            Edges.due(x.order(1), 0);
            Edges.row(x::ends, 1, 0, 0);
            Edges.due(x.best(), 0);
            Edges.row(x::worst, 0, 0);
            Edges.due(x.swap(), NONE);
            Edges.due(x.humble(), 0);
            Edges.due(x.draw(1, 0), NONE);
            for (int law = 0; law < 5; law++) {
                Edges.due(x.compared(law), 0);
                Edges.due(x.drawn(law, 1, 60), 0);
            }
            Edges.due(x.salty(0), 0);
            Edges.due(x.salted(0), 0);
        });
    }

    private static void emptySets() {
        Edges.of("1 sets of a JAR without CLAUSES: the empty one", () -> {
            LotBeliefs x = new LotBeliefs();
            for (int week = 0; week < 52; week++) {
                int w = week;
                Edges.row(what -> x.sets(w, what), 1, 0, 1, NONE);
                Edges.row(i -> x.whole(w, i), 0, NONE);
                Edges.row(what -> x.split(w, what), 0, 8);
                Edges.due(x.fits(0, w), true);
                Edges.due(x.together(0, w), 65535);
                Edges.due(x.following(0, w), 0);
                Edges.due(x.likely(w), 0);
                Edges.due(x.quarrels(w), 0);
                Edges.due(x.peace(w), 0);
                Edges.due(x.asks(w), 15);
                Edges.row(atom -> x.known(atom, w), 2, 2, 2, 2);
            }
        });
    }

    // ---- promise 2 ----

    private static void feed() {
        Edges.of("2 twenty bytes come on the TAPE: how many there are", () -> {
            LotBeliefs x = new LotBeliefs();
            for (int i = 1; i <= 30; i++) {
                Edges.due(x.feed(i, -i, 0, -1, 1), 20 * i);
                Edges.due(x.count(1), 20 * i);
            }
        });
        Edges.of("2 NONE, doing nothing, if there would be more than 600", () -> {
            LotBeliefs x = new LotBeliefs();
            Feeder.feed(x, many(" ", 593) + "slip a;");
            for (int i = 0; i < 3; i++) {
                Edges.due(x.feed('?', '?', '?', '?', '?'), NONE);
                Edges.due(x.count(1), 600);
            }
            Edges.due(x.jar(600), 1);
            Edges.row(x::status, 0, 0, 0);
        });
        Edges.of("2 600 are let through again behind a text", () -> {
            LotBeliefs x = new LotBeliefs();
            for (int round = 0; round < 3; round++) {
                Feeder.feed(x, many(" ", 600));
                Edges.due(x.feed(0, 0, 0, 0, 0), NONE);
                Edges.due(x.jar(round), 0);
                Edges.due(x.count(1), 0);
            }
            Edges.due(x.feed(0, 0, 0, 0, 0), 20);
        });
        Edges.of("2 of each number the highest first", () -> {
            LotBeliefs x = new LotBeliefs();
            Edges.due(x.feed(0x736c6970, 0x20613b73, 0x6c697020, 0x623b6c61, 0x7720333b), 20);
            Edges.due(x.jar(20), 2);
            Edges.due(x.models(0), 0xAAAA);
            Edges.due(x.models(1), 0xCCCC);
            Edges.due(x.told(5), 3);
        });
        Edges.of("2 each of twenty bytes has its place", () -> {
            for (int odd = 0; odd < 20; odd++) {
                int[] n = {0x20202020, 0x20202020, 0x20202020, 0x20202020, 0x20202020};
                n[odd / 4] ^= 0xff << 24 - odd % 4 * 8;
                LotBeliefs x = new LotBeliefs();
                x.feed(n[0], n[1], n[2], n[3], n[4]);
                Edges.due(x.jar(20), -9);
                Edges.due(x.fault(), odd);
            }
        });
    }

    // ---- promises 3 to 5: what is taken ----

    private static void bytesOfTheTape() {
        Edges.of("3 the first n bytes of the TAPE (empty then)", () -> {
            int[] due = {0, -9, -9, -9, -9, -9, -9, 1, -9, -9, -9, -9, -9, -9, 2};
            int[] places = {NONE, 0, 0, 0, 4, 5, 6, NONE, 7, 7, 7, 11, 12, 13, NONE};
            for (int n = 0; n < due.length; n++) {
                LotBeliefs x = new LotBeliefs();
                Feeder.feed(x, "slip a;slip b;");
                Edges.due(x.jar(n), due[n]);
                Edges.due(x.fault(), places[n]);
                Edges.due(x.count(1), 0);
            }
        });
        Edges.of("3 the TAPE is empty behind a FAULT too", () -> {
            LotBeliefs x = new LotBeliefs();
            Feeder.feed(x, "slop");
            x.jar(4);
            Edges.due(x.count(1), 0);
            Edges.argument(x, () -> x.jar(1));
            Edges.due(Feeder.jar(x, "slip a;"), 1);
        });
        Edges.of("3 IllegalArgumentException: n is not 0 to the TAPE's bytes (it stays)", () -> {
            LotBeliefs x = new LotBeliefs();
            refusesBytes(x, x::jar, 1);
            Edges.due(x.jar(0), 0);
            Feeder.feed(x, "slip a;slip b;law 3;");
            refusesBytes(x, x::jar, 21);
            Edges.due(x.count(1), 20);
            Edges.due(x.jar(20), 2);
            Feeder.feed(x, many(" ", 593) + "slip a;");
            refusesBytes(x, x::jar, 601);
            Edges.due(x.count(1), 600);
            Edges.due(x.told(1), 2);
            Edges.due(x.jar(600), 1);
        });
        Edges.of("4 likewise n of the QUESTION (n to 200; the TAPE stays)", () -> {
            LotBeliefs x = new LotBeliefs();
            refusesBytes(x, x::question, 1);
            Feeder.feed(x, "a or b");
            refusesBytes(x, x::question, 21);
            Edges.due(x.question(6), 12);
            Edges.due(x.count(1), 0);
            Feeder.feed(x, many(" ", 199) + "a" + many(" ", 400));
            refusesBytes(x, x::question, 201);
            refusesBytes(x, x::question, 600);
            Edges.due(x.count(1), 600);
            Edges.due(x.question(200), 8);
            Edges.due(x.count(1), 0);
        });
        Edges.of("5 likewise n of the TONGUE (n to 200; the TAPE stays)", () -> {
            LotBeliefs x = new LotBeliefs();
            refusesBytes(x, x::tongue, 1);
            Feeder.feed(x, "new 1=1;");
            refusesBytes(x, x::tongue, 21);
            Edges.due(x.tongue(8), 1);
            Edges.due(x.count(1), 0);
            Feeder.feed(x, many(" ", 192) + "new 1=1;" + many(" ", 400));
            refusesBytes(x, x::tongue, 201);
            refusesBytes(x, x::tongue, 600);
            Edges.due(x.count(1), 600);
            Edges.due(x.tongue(200), 1);
            Edges.due(x.count(1), 0);
        });
        Edges.of("4 the first n bytes are the QUESTION", () -> {
            LotBeliefs x = new LotBeliefs();
            Feeder.feed(x, "a or b");
            Edges.due(x.question(1), 8);
            Edges.due(x.count(1), 0);
            Feeder.feed(x, "a or b");
            Edges.due(x.question(5), -9);
            Edges.due(x.fault(), 5);
            Edges.due(x.question(0), -9);
            Edges.due(x.fault(), 0);
        });
        Edges.of("5 the first n bytes are the TONGUE", () -> {
            LotBeliefs x = new LotBeliefs();
            Feeder.feed(x, "new 1=1;old 1=1;");
            Edges.due(x.tongue(8), 1);
            Feeder.feed(x, "new 1=1;old 1=1;");
            Edges.due(x.tongue(15), -9);
            Edges.due(x.fault(), 15);
            Edges.due(x.tongue(0), 0);
            Edges.due(x.fault(), NONE);
        });
    }

    private static void refusesBytes(LotBeliefs x, java.util.function.IntToLongFunction call, int least) {
        int there = x.count(1);
        Edges.argument(x, () -> call.applyAsLong(least));
        for (int n : WIDE) {
            Edges.argument(x, () -> call.applyAsLong(n));
        }
        Edges.due(x.count(1), there);
    }

    private static void longestTexts() {
        Edges.of("T a JAR is a text of up to 600 bytes: the last one counts", () -> {
            jar(many(" ", 593) + "slip a;", 1);
            jar("slip a;" + many(" ", 593), 1);
            jarFault(many(" ", 594) + "slip a|", 1);
            jarFault(many(" ", 592) + "slip a;|?", 1);
        });
        Edges.of("T a QUESTION is a text of up to 200 bytes: the last one counts", () -> {
            question("", many(" ", 199) + "a", 8);
            question("", "a" + many(" ", 199), 8);
            questionFault("", many(" ", 198) + "a|;", 1);
            questionFault("", many(" ", 200) + "|", 1);
            question("", many("a or ", 39) + "a    ", 8);
            questionFault("", many("a or ", 39) + "a   |b", 1);
        });
        Edges.of("T a TONGUE is a text of up to 200 bytes: the last one counts", () -> {
            tongue(many(" ", 192) + "new 1=1;", 1);
            tongue("new 1=1;" + many(" ", 192), 1);
            tongueFault(many(" ", 193) + "new 1=1|", 1);
            tongueFault(many(" ", 191) + "new 1=1;|?", 1);
        });
        Edges.of("T the longest TONGUE holds all that can be told in it", () -> {
            LotBeliefs x = Edges.with("slip a;", "new " + many("1+", 95) + "1=96;");
            Edges.due(x.judge(0, 0, 0, 0), 1);
            Feeder.tongue(x, "new " + many("1+", 95) + "1=95;");
            Edges.due(x.judge(0, 0, 0, 0), 0);
            Feeder.tongue(x, "old " + many("1*", 94) + "2=2;");
            Edges.due(x.judge(0, 0, 0, 0), 2);
            Feeder.tongue(x, "new 1=1 and " + many("1=1 or ", 26) + "1=2;");
            Edges.due(x.judge(0, 0, 0, 0), 1);
            Feeder.tongue(x, "new 1=1 and not[1=1" + many(" and 1=1", 21) + "];");
            Edges.due(x.judge(0, 0, 0, 0), 0);
        });
        Edges.of("T the fullest JAR: 12 SLIPS, 12 SEEINGS, 5 SALTS over 6 ATOMS", () -> {
            LotBeliefs x = Edges.with("atoms 6;" + many("slip a;", 11) + "slip f;" + many("see 51 a;", 11)
                    + "see 0 f;" + many("salt a;", 4) + "salt b;world 63;law 4;");
            Edges.row(x::told, 6, 12, 12, 5, 63, 4);
            Edges.due(x.models(11), -1L << 32);
            Edges.due(x.seen(11), -1L << 32);
            Edges.due(x.held(51), 4095);
            Edges.due(x.salty(31), 4095);
            Edges.due(x.sets(51, 0), 4096);
            Edges.due(x.left(51), 0xAAAAAAAAL << 32);
        });
    }

    private static void whatAJarEmpties() {
        String one = "atoms 2;slip a;slip b;slip a and b;law 3;world 2;see 4 a;salt b;";
        Edges.of("3 a new JAR: nothing of the old one is left", () -> {
            LotBeliefs x = Edges.with(one);
            Edges.due(Feeder.jar(x, "slip b;"), 1);
            Edges.row(x::told, 4, 1, 0, 0, 0, 0);
            Edges.due(x.left(51), 65535);
            Edges.due(x.models(0), 0xCCCC);
            Edges.numbered(x, 1, x::models);
            Edges.numbered(x, 0, x::seen);
            Edges.between(x, 0, 0, x::salty);
            Edges.due(Feeder.jar(x, one), 3);
            Edges.row(x::told, 2, 3, 1, 1, 2, 3);
        });
        Edges.of("3 a new JAR: ORDER by number", () -> {
            LotBeliefs x = Edges.with(one);
            x.order(0x210);
            Feeder.jar(x, one);
            Edges.row(x::at, 0, 1, 2, NONE);
            x.order(0x120);
            Feeder.jar(x, "slip a;slip a;slip a;slip a;");
            Edges.row(x::at, 0, 1, 2, 3, NONE);
        });
        Edges.of("3 a new JAR: no QUESTION", () -> {
            LotBeliefs x = Edges.asking(one, "b");
            Edges.due(x.proof(0), 2);
            Feeder.jar(x, one);
            Edges.due(x.proof(0), 0);
        });
        Edges.of("3 a new JAR: no TONGUE", () -> {
            LotBeliefs x = Edges.with(one, "new 1=1;");
            Edges.due(x.judge(0, 1, 0, 0), 1);
            Feeder.jar(x, one);
            Edges.due(x.judge(0, 1, 0, 0), 0);
        });
        Edges.of("3 a new JAR: no IMAGES", () -> {
            LotBeliefs x = Edges.with(one);
            x.image();
            x.image();
            x.image();
            Feeder.jar(x, one);
            Edges.due(x.count(0), 0);
            Edges.due(x.restore(), -1);
            Edges.due(x.image(), 1);
        });
        Edges.of("3 a new JAR: its LAW and its world that IS, not those set since", () -> {
            LotBeliefs x = Edges.with(one);
            x.law(1);
            x.world(1);
            Feeder.jar(x, one);
            Edges.due(x.told(4), 2);
            Edges.due(x.told(5), 3);
            x.law(1);
            x.world(1);
            Feeder.jar(x, "slip a;");
            Edges.due(x.told(4), 0);
            Edges.due(x.told(5), 0);
        });
        Edges.of("3 how many SLIPS", () -> {
            for (int slips = 0; slips <= 12; slips++) {
                jar(many("slip a;", slips), slips);
                jar("salt a;see 1 a;" + many("slip a;", slips) + "see 1 a;law 1;", slips);
            }
        });
        Edges.of("3 or the FAULT less 10", () -> {
            jarFault("|slop a;", 1);
            jarFault("law |5;", 2);
            jarFault(many("salt a;", 5) + "|salt a;", 3);
            jarFault("law 1;|atoms 2;", 4);
        });
    }

    // ---- clauses ----

    private static void clauses() {
        Edges.of("T at most 60 CLAUSES", () -> {
            jar(many("law 0;", 60), 0);
            jar(many("law 0;", 60) + many(" ", 240), 0);
            jarFault(many("law 0;", 60) + "|law 0;", 3);
            jarFault(many("law 0;", 60) + "  |world 0;", 3);
            jarFault(many("law 0;", 60) + "|see 0 a;", 3);
            jarFault(many("law 0;", 60) + "|salt a;", 3);
            jarFault(many("law 0;", 60) + "|slip", 3);
            jar("atoms 2;" + many("law 0;", 59), 0);
            jarFault("atoms 2;" + many("law 0;", 59) + "|law 0;", 3);
        });
        Edges.of("T a CLAUSE too many is none too many if it is not there", () -> {
            jarFault(many("law 0;", 59) + "law 0|", 1);
            jarFault(many("law 0;", 60) + "|;", 1);
            jarFault(many("law 0;", 60) + "|0", 1);
        });
        Edges.of("T each CLAUSE has its ;", () -> {
            jarFault("law 0|", 1);
            jarFault("law 0|law 0;", 1);
            jarFault("slip a |slip b;", 1);
            jarFault("see 0 a|.", 1);
            jarFault("world 0|:", 1);
            jarFault("atoms 1|,", 1);
            jarFault("salt a|", 1);
        });
        Edges.of("T a CLAUSE begins with its word, and is not empty", () -> {
            jarFault("|;", 1);
            jarFault("law 0;|;", 1);
            jarFault("|a;", 1);
            jarFault("|0;", 1);
            jarFault("|[a];", 1);
            jarFault("|not a;", 1);
            jarFault("|question a;", 1);
        });
        Edges.of("T SLIPS numbered from 0 on, 12 at most", () -> {
            LotBeliefs x = Edges.with("salt d;slip a;see 0 d;slip b;salt d;slip c;");
            Edges.row(x::models, 0xAAAA, 0xCCCC, 0xF0F0);
            Edges.numbered(x, 3, x::models);
            jar(many("slip a;", 12), 12);
            jarFault(many("slip a;", 12) + "|slip a;", 3);
            jarFault(many("slip a;", 12) + "law 0; |slip", 3);
            LotBeliefs twelve = Edges.with(many("slip a;", 11) + "slip b;");
            Edges.due(twelve.models(11), 0xCCCC);
            Edges.numbered(twelve, 12, twelve::models);
        });
        Edges.of("T SEEINGS likewise, 12", () -> {
            LotBeliefs x = Edges.with("salt d;see 9 a;slip d;see 3 b;slip d;see 6 c;");
            Edges.row(x::seen, 0xAAAA, 0xCCCC, 0xF0F0);
            Edges.numbered(x, 3, x::seen);
            jar(many("see 0 a;", 12), 0);
            jarFault(many("see 0 a;", 12) + "|see 0 a;", 3);
            jarFault(many("see 0 a;", 12) + "law 0; |see", 3);
            LotBeliefs twelve = Edges.with(many("see 0 a;", 11) + "see 0 b;");
            Edges.due(twelve.seen(11), 0xCCCC);
            Edges.numbered(twelve, 12, twelve::seen);
        });
        Edges.of("T SALTS likewise, 5", () -> {
            jar(many("salt a;", 5), 0);
            jarFault(many("salt a;", 5) + "|salt a;", 3);
            jarFault(many("salt a;", 5) + "law 0; |salt", 3);
            LotBeliefs x = Edges.with("slip d;salt a;see 0 d;salt b;slip c;salt c;");
            Edges.due(x.told(3), 3);
            Edges.between(x, 0, 7, x::salty);
        });
        Edges.of("T SLIPS, SEEINGS and SALTS are each counted by themselves", () ->
                jar(many("slip a;", 12) + many("see 0 a;", 12) + many("salt a;", 5) + "law 0;", 12));
    }

    private static void clauseNumbers() {
        Edges.of("T see M: 0 to 51", () -> {
            jar("see 0 a;", 0);
            jar("see 51 a;", 0);
            jarFault("see |52 a;", 2);
            jarFault("see |99999999999999999999 a;", 2);
            jarFault("see |4294967296 a;", 2);
            jarFault("see |-1 a;", 1);
            jarFault("see |a;", 1);
            jarFault("see |;", 1);
            jarFault("see|", 1);
            jarFault("see 5|", 1);
            jarFault("see 5|;", 1);
        });
        Edges.of("T in WEEK M C is seen to be so: in it and behind, not ahead", () -> {
            LotBeliefs x = Edges.with("see 0 a;see 51 b;");
            for (int week = 0; week < 52; week++) {
                Edges.due(x.left(week), week < 51 ? 0xAAAA : 0x8888);
            }
        });
        Edges.of("T law L: 0 to 4", () -> {
            for (int law = 0; law < 5; law++) {
                Edges.due(Edges.with("law " + law + ";").told(5), law);
            }
            jarFault("law |5;", 2);
            jarFault("law |4294967296;", 2);
            jarFault("law |-1;", 1);
            jarFault("law |a;", 1);
            jarFault("law|", 1);
        });
        Edges.of("T world W: 0 to 2 to the N less 1", () -> {
            for (int atoms = 1; atoms <= 6; atoms++) {
                int most = (1 << atoms) - 1;
                LotBeliefs x = Edges.with("atoms " + atoms + ";world " + most + ";");
                Edges.due(x.told(4), most);
                jarFault("atoms " + atoms + ";world |" + (most + 1) + ";", 2);
            }
            Edges.due(Edges.with("world 15;").told(4), 15);
            jarFault("world |16;", 2);
            jarFault("world |4294967296;", 2);
            jarFault("world |a;", 1);
            jarFault("world|", 1);
        });
        Edges.of("T atoms N: 1 to 6", () -> {
            for (int atoms = 1; atoms <= 6; atoms++) {
                Edges.due(Edges.with("atoms " + atoms + ";").told(0), atoms);
            }
            jarFault("atoms |0;", 2);
            jarFault("atoms |7;", 2);
            jarFault("atoms |4294967297;", 2);
            jarFault("atoms |a;", 1);
            jarFault("atoms |;", 1);
            jarFault("atoms|", 1);
        });
    }

    private static void atomsClause() {
        Edges.of("T 4 ATOMS without", () -> {
            LotBeliefs x = Edges.with("slip d;");
            Edges.due(x.told(0), 4);
            Edges.due(x.models(0), 0xFF00);
            Edges.due(x.left(0), 0xFFFF);
            jarFault("slip |e;", 1);
        });
        Edges.of("T atoms ahead of all others", () -> {
            for (String other : new String[] {"slip a;", "see 0 a;", "salt a;", "world 0;", "law 0;"}) {
                jarFault(other + "|atoms 4;", 4);
                jarFault(other + "  |atoms 9;", 4);
                jarFault(other + "|atoms", 4);
                jar("atoms 4;" + other, other.startsWith("slip") ? 1 : 0);
            }
        });
        Edges.of("T atoms once", () -> {
            jarFault("atoms 4;|atoms 4;", 4);
            jarFault("atoms 4; |atoms 9;", 4);
            jarFault("atoms |9;atoms 4;", 2);
        });
        Edges.of("T LEFT at first: all WORLDS of N ATOMS", () -> {
            long[] all = {3, 15, 255, 65535, 0xFFFFFFFFL, -1L};
            for (int atoms = 1; atoms <= 6; atoms++) {
                Edges.due(Edges.with("atoms " + atoms + ";").left(0), all[atoms - 1]);
            }
        });
    }

    private static void worldAndLaw() {
        Edges.of("T world: 0 without; the last counts", () -> {
            Edges.due(Edges.with("law 1;").told(4), 0);
            Edges.due(Edges.with("world 9;slip a;world 0;").told(4), 0);
            Edges.due(Edges.with("world 0;world 9;world 5;").told(4), 5);
            Edges.due(Edges.with("world 9;world 5;slip a;").truths(), 1);
        });
        Edges.of("T law: 0 without; the last counts", () -> {
            Edges.due(Edges.with("world 1;").told(5), 0);
            Edges.due(Edges.with("law 4;slip a;law 0;").told(5), 0);
            Edges.due(Edges.with("law 0;law 4;law 2;").told(5), 2);
        });
    }

    // ---- sentences ----

    private static void atomsOfSentences() {
        Edges.of("T an ATOM: N of them", () -> {
            for (int atoms = 1; atoms <= 6; atoms++) {
                for (char c = 'a'; c <= 'z'; c++) {
                    if (c < 'a' + atoms) {
                        jar("atoms " + atoms + ";slip " + c + ";", 1);
                    } else {
                        jarFault("atoms " + atoms + ";slip |" + c + ";", 1);
                    }
                }
            }
        });
        Edges.of("T an ATOM: a WORD of one letter", () -> {
            jarFault("slip |aa;", 1);
            jarFault("slip |ab;", 1);
            jarFault("slip |A;", 1);
            jarFault("slip |`;", 1);
            jarFault("slip |{;", 1);
            jarFault("slip |1;", 1);
        });
        Edges.of("T ATOM a is so in a WORLD, if its bit 0 is set, b by bit 1, ..", () -> {
            LotBeliefs x = Edges.with("atoms 6;slip a;slip b;slip c;slip d;slip e;slip f;");
            Edges.row(x::models, 0xAAAAAAAAAAAAAAAAL, 0xCCCCCCCCCCCCCCCCL, 0xF0F0F0F0F0F0F0F0L, 0xFF00FF00FF00FF00L,
                    0xFFFF0000FFFF0000L, 0xFFFFFFFF00000000L);
            LotBeliefs y = Edges.with("atoms 1;slip a;slip not a;");
            Edges.row(y::models, 2, 1);
        });
        Edges.of("T bits of a number of 64 bits, WORLD 0 the lowest", () -> {
            LotBeliefs x = Edges.with("atoms 6;slip a and b and c and d and e and f;"
                    + "slip not a and not b and not c and not d and not e and not f;"
                    + "slip a or not a;slip a and not a;slip not a and b and c and d and e and f;");
            Edges.row(x::models, Long.MIN_VALUE, 1, -1, 0, 1L << 62);
        });
    }

    private static void sentences() {
        Edges.of("T C: D or D; D: B and B", () -> {
            so("a or b and not a", 14);
            so("b and not a or a", 14);
            so("a and b or not a", 13);
            so("not a or a and b", 13);
            so("a or b or not a", 15);
            so("a and b and a", 8);
            so("a and b or a and not b or not a and b", 14);
        });
        Edges.of("T B: not B", () -> {
            so("not a and b", 4);
            so("not a or b", 13);
            so("not not a", 10);
            so("not not not a", 5);
            so("a and not b", 2);
            so("not [a and b]", 7);
            so("not [a or b]", 1);
        });
        Edges.of("T B: [ C ]", () -> {
            so("[a]", 10);
            so("[[a]]", 10);
            so("[a or b] and not a", 4);
            so("a and [b or not a]", 8);
            so("[a and b]or[not a and not b]", 9);
        });
        Edges.of("T B: if B then B", () -> {
            so("if a then b", 13);
            so("if a then b and a", 8);
            so("if a then a and b", 12);
            so("if a then [a and b]", 13);
            so("b and if a then b", 12);
            so("a or if b then a", 11);
            so("not if a then b", 2);
            so("if not a then b", 14);
            so("if a then not b", 7);
            so("if if a then b then a", 10);
            so("if a then if b then a", 15);
            so("if [a or b] then a", 11);
            so("if a then b or a and b", 13);
        });
        Edges.of("T what is not a sentence", () -> {
            for (String barred : new String[] {"|", "a |a", "a or|", "a and|", "not|", "if|",
                "if a|", "if a then|", "[|", "[a|", "|]", "a|]", "[|]", "|or a", "|and a", "|then a", "a or |or b",
                "a and |and b", "a |not b", "if a |or b then a", "if a |and b then a",
                "if a |b", "if |then b", "a |then b", "[a |b]", "[a]|[b]", "not |and", "a |if b then a", "a|,b"}) {
                questionFault("", barred, 1);
                jarFault("slip " + barred, 1);
                jarFault("see 3 " + barred, 1);
                jarFault("salt " + barred, 1);
            }
        });
    }

    private static void spelling() {
        Edges.of("T blanks may stand ahead of all these, and at the end", () -> {
            jar("  atoms  2  ;  slip  [  a  ]  and  not  b  ;  see  5  if  a  then  b  ;  law  1  ;  ", 1);
            jar("     ", 0);
            jar("", 0);
            question("", "  a  or  [  b  ]  ", 12);
            tongue("  new  (  1  +  age  )  *  2  <  3  or  [  1  =  1  ]  ;  ", 1);
            tongue("    ", 0);
        });
        Edges.of("T blanks need not stand where nothing runs together", () -> {
            jar("atoms2;slip[a]and[b]or not[a];see5a;see51b;world3;law1;salt[b];", 1);
            Edges.due(Edges.with("see5a;").left(4), 65535);
            Edges.due(Edges.with("see5a;").left(5), 0xAAAA);
            tongue("new(1+age)*2<3or[1=1];old not(2)=1;both 1=1and 2=2;", 3);
        });
        Edges.of("T a blank is 32 and nothing else", () -> {
            for (int sign = 0; sign < 256; sign++) {
                boolean letter = sign >= 'a' && sign <= 'z';
                if (sign != ' ' && sign != '[') {
                    LotBeliefs x = new LotBeliefs();
                    Edges.due(Feeder.jar(x, "slip" + (char) sign + "a;"), -9);
                    Edges.due(x.fault(), letter ? 0 : 4);
                }
            }
        });
        Edges.of("T WORDS: small letters, as many as stand there", () -> {
            jarFault("|slipa;", 1);
            jarFault("|slips a;", 1);
            jarFault("|sli p a;", 1);
            jarFault("|Slip a;", 1);
            jarFault("slip |nota;", 1);
            jarFault("slip a |orb;", 1);
            jarFault("slip if a |thenb;", 1);
            jarFault("slip |ifa then b;", 1);
            jarFault("slip a and|1b;", 1);
            jarFault("|slipslip a;", 1);
            jarFault("|sl", 1);
        });
        Edges.of("T WORDS: each letter counts", () -> {
            String jar = "atoms 4;slip if a then b and not c or d;see 3 a;salt b;world 2;law 1;";
            jar(jar, 1);
            eachLetter(Feeder::jar, jar);
            tongue(WORDS, 3);
            eachLetter(Feeder::tongue, WORDS);
        });
        Edges.of("T Numbers: digits, as many as stand there", () -> {
            Edges.due(Edges.with("world 000000000000000000000000015;").told(4), 15);
            Edges.due(Edges.with("law 00;").told(5), 0);
            jarFault("world |0000000000000000000000000016;", 2);
            jarFault("world 1|.5;", 1);
            jarFault("world 1 |2;", 1);
            jarFault("law |1234567890123456789012345678901234567890;", 2);
            jarFault("world |2147483648;", 2);
            jarFault("world |18446744073709551616;", 2);
        });
    }

    private static final String WORDS = "new age=1 and hurts=2 or not olds=3;old news=4 and oldn=5 or newn=6;"
            + "both week=7 and held=8 or not left=9 and shared=10;";

    /** Any letter of a WORD of more than one, if it is another one, is a FAULT at the WORD's first byte. */
    private static void eachLetter(BiFunction<LotBeliefs, String, Integer> as, String text) {
        java.util.regex.Matcher word = java.util.regex.Pattern.compile("[a-z]{2,}").matcher(text);
        while (word.find()) {
            for (int i = word.start(); i < word.end(); i++) {
                String spoilt = text.substring(0, i) + "q" + text.substring(i + 1);
                fails(as, new LotBeliefs(), spoilt.substring(0, word.start()) + "|" + spoilt.substring(word.start()), 1);
            }
        }
    }

    // ---- faults ----

    private static void places() {
        Edges.of("T FAULTS, the first from the left", () -> {
            jarFault("law |9;world 99;slop", 2);
            jarFault("slip |z;law 9;", 1);
            jarFault("slip a;|atoms 9;law 9;", 4);
            jarFault("law 1;|slop;law 9;atoms 2;", 1);
            jarFault("see |52 z;", 2);
        });
        Edges.of("T at its first byte", () -> {
            jarFault("law    |12345;", 2);
            jarFault("   |slop a;", 1);
            jarFault("slip a    |andy b;", 1);
            jarFault("law 1   |atoms 2;", 1);
            jarFault("law 1;   |atoms 2;", 4);
        });
        Edges.of("T at the length, if the text ends too early", () -> {
            for (String text : new String[] {"slip", "slip ", "slip a", "slip a   ", "slip not", "slip [a", "see", "see 1",
                "see 1 ", "see 1 a", "law", "law 1", "world", "world 1  ", "atoms", "atoms 2", "salt", "salt a",
                "slip if a then", "slip a or ", "law 1;slip"}) {
                jarFault(text + "|", 1);
            }
            for (String text : new String[] {"", "   ", "a or", "not ", "[a", "if a", "if a then "}) {
                questionFault("", text + "|", 1);
            }
            for (String text : new String[] {"new", "new ", "new 1", "new 1=", "new 1=1", "new 1=1 or", "new not", "new (",
                "new (1", "new [", "new [1=1", "new 1+", "new 1*", "new 1-", "new 1=1;old"}) {
                tongueFault(text + "|", 1);
            }
        });
        Edges.of("T the length is n, though the TAPE has more", () -> {
            LotBeliefs x = new LotBeliefs();
            Feeder.feed(x, "slip a;");
            Edges.due(x.jar(6), -9);
            Edges.due(x.fault(), 6);
            Feeder.feed(x, "law 12;");
            Edges.due(x.jar(5), -9);
            Edges.due(x.fault(), 5);
        });
    }

    private static void openInSentences() {
        Edges.of("T a 7th of [ that is open", () -> {
            question("", many("[", 6) + "a" + many("]", 6), 8);
            questionFault("", many("[", 6) + "|[a" + many("]", 7), 3);
            questionFault("", many("[", 6) + "|[", 3);
            jarFault("slip " + many("[", 6) + "|[a" + many("]", 7) + ";", 3);
            jarFault("see 1 " + many("[", 6) + "|[a" + many("]", 7) + ";", 3);
            jarFault("salt " + many("[", 6) + "|[a" + many("]", 7) + ";", 3);
        });
        Edges.of("T a 7th of not that is open", () -> {
            question("", many("not ", 6) + "a", 8);
            questionFault("", many("not ", 6) + "|not a", 3);
            questionFault("", many("not ", 6) + "|not", 3);
        });
        Edges.of("T a 7th of if that is open", () -> {
            question("", many("if ", 6) + "a" + many(" then b", 6), 12);
            questionFault("", many("if ", 6) + "|if a" + many(" then b", 7), 3);
            question("", many("if a then ", 6) + "b", 12);
            questionFault("", many("if a then ", 6) + "|if a then b", 3);
        });
        Edges.of("T a 7th of [ and not and if together", () -> {
            question("", "not [if a then not [not a]]", 0);
            question("", "[not if [not if a then b] then c]", 2);
            questionFault("", "[not if [not if |[a] then b] then c]", 3);
            questionFault("", "[not if [not if |not a then b] then c]", 3);
            questionFault("", "[not if [not if |if a then b then b] then c]", 3);
            questionFault("", "[not if [not if a then |[b]] then c]", 3);
            questionFault("", "[not if [not if a then |not b] then c]", 3);
            questionFault("", "[not if [not if a then |if a then b] then c]", 3);
        });
        Edges.of("T a not is open till its B ends", () -> {
            question("", many("not a and ", 9) + "not a", 8);
            question("", many("not a or ", 9) + "not a", 8);
            question("", many("not ", 4) + "[" + many("not a and ", 4) + "not b]", 4);
            questionFault("", many("not ", 4) + "[" + many("not a and ", 4) + "not |not b]", 3);
            question("", "if not a then not a", 16);
            question("", many("if not a then ", 5) + "not a", 16);
            questionFault("", many("if not a then ", 5) + "if |not a then b", 3);
        });
        Edges.of("T an if is open till its second B ends", () -> {
            question("", many("if a then b or ", 9) + "a", 16);
            questionFault("", many("not ", 5) + "if |not a then b", 3);
            questionFault("", many("not ", 5) + "if a then |not b", 3);
            question("", many("not ", 5) + "if a then b or not a", 12);
            questionFault("", many("not ", 5) + "if a then b or " + many("not ", 6) + "|[a]", 3);
        });
        Edges.of("T a [ is open till its ]", () -> {
            question("", many("[a] and ", 9) + "[a]", 8);
            question("", "[" + many("[a] and ", 9) + "[[[[[a]]]]]]", 8);
            questionFault("", "[" + many("[a] and ", 9) + "[[[[[|[a]]]]]]]", 3);
        });
        Edges.of("T what is open at a FAULT is not open in the next text", () -> {
            LotBeliefs x = new LotBeliefs();
            fails(Feeder::question, x, many("not ", 6) + "|?", 1);
            reads(Feeder::question, x, many("not ", 6) + "a", 8);
            fails(Feeder::jar, x, "slip " + many("[", 6) + "|?", 1);
            reads(Feeder::jar, x, "slip " + many("[", 6) + "a" + many("]", 6) + ";", 1);
            fails(Feeder::tongue, x, "new " + many("(", 6) + "|?", 1);
            reads(Feeder::tongue, x, "new " + many("(", 6) + "1" + many(")", 6) + "=1;", 1);
            fails(Feeder::tongue, x, "new " + many("[", 6) + "|(", 3);
            reads(Feeder::tongue, x, "new " + many("not ", 6) + "1=1;", 1);
        });
        Edges.of("T each sentence of a JAR opens for itself", () ->
                jar(many("slip " + many("not ", 6) + "a;", 9) + "see 1 " + many("[", 6) + "a" + many("]", 6) + ";", 9));
    }

    private static void leastFault() {
        Edges.of("T of one the least: a 61st CLAUSE that is none", () -> {
            jarFault(many("law 0;", 60) + "|slop 0;", 1);
            jarFault(many("law 0;", 60) + "|a", 1);
        });
        Edges.of("T of one the least: a 61st CLAUSE atoms too late", () -> {
            jarFault(many("law 0;", 60) + "|atoms 2;", 3);
            jarFault(many("law 0;", 59) + "|atoms 2;", 4);
            jarFault("atoms 2;" + many("law 0;", 59) + "|atoms 2;", 3);
        });
        Edges.of("T of one the least: an 11th WHO that is none", () -> {
            tongueFault(many("new 1=1;", 10) + "|now 1=1;", 1);
            tongueFault(many("new 1=1;", 10) + "|1=1;", 1);
            tongueFault(many("new 1=1;", 10) + "|old 1=1;", 3);
        });
    }

    // ---- promise 4 ----

    private static void questions() {
        Edges.of("T a QUESTION: C, at the end nothing more", () -> {
            questionFault("", "|", 1);
            questionFault("", "a|;", 1);
            questionFault("", "a |b", 1);
            questionFault("", "a or b |]", 1);
            questionFault("", "[a]|[b]", 1);
            questionFault("", "|slip a", 1);
            questionFault("", "a |0", 1);
        });
        Edges.of("4 how many MODELS it has", () -> {
            question("atoms 6;", "a or not a", 64);
            question("atoms 6;", "a", 32);
            question("atoms 6;", "a and not a", 0);
            question("atoms 6;", "a and b and c and d and e and f", 1);
            question("atoms 1;", "a or not a", 2);
            question("atoms 1;", "not a", 1);
            question("", "a", 8);
        });
        Edges.of("4 ATOMS of the QUESTION are those of the JAR", () -> {
            questionFault("atoms 1;", "|b", 1);
            question("atoms 2;", "b", 2);
            questionFault("", "|e", 1);
            question("atoms 6;", "f", 32);
        });
        Edges.of("4 what is seen does not count for its MODELS", () -> question("see 0 a;", "not a", 8));
        Edges.of("4 a QUESTION behind another one", () -> {
            LotBeliefs x = Edges.asking("slip a;slip b;", "a");
            Edges.due(x.proof(0), 1);
            Feeder.question(x, "b");
            Edges.due(x.proof(0), 2);
            Feeder.question(x, "c or not c");
            Edges.due(x.proof(0), 0);
        });
    }

    // ---- promise 5 ----

    private static void tongues() {
        Edges.of("5 how many WHO it tells of", () -> {
            for (int rules = 0; rules <= 10; rules++) {
                tongue(many("old 1=1;", rules), rules);
            }
            tongue("new 1=1;old 1=1;both 1=1;", 3);
        });
        Edges.of("T of a TONGUE at most 10", () -> {
            tongue(many("new 1=1;", 10), 10);
            tongueFault(many("new 1=1;", 10) + "|new 1=1;", 3);
            tongueFault(many("new 1=1;", 10) + "   |both", 3);
            tongueFault(many("new 1=1;", 10) + "|;", 1);
        });
        Edges.of("T WHO: new, old or both", () -> {
            tongueFault("|none 1=1;", 1);
            tongueFault("|1=1;", 1);
            tongueFault("|;", 1);
            tongueFault("|news 1=1;", 1);
            tongueFault("new 1=1;|boths 1=1;", 1);
            tongueFault("|New 1=1;", 1);
        });
        Edges.of("T I: E R E; R: <, > or =", () -> {
            tongue("new 1<1;new 1>1;new 1=1;", 3);
            tongueFault("new 1|;", 1);
            tongueFault("new 1=|;", 1);
            tongueFault("new 1|!1;", 1);
            tongueFault("new 1<|=1;", 1);
            tongueFault("new 1=|=1;", 1);
            tongueFault("new 1=1|=1;", 1);
            tongueFault("new |=1;", 1);
            tongueFault("new (1|=1);", 1);
            tongueFault("new [1|]=1;", 1);
            tongueFault("new not 1|;", 1);
            tongueFault("new 1 |and 1=1;", 1);
        });
        Edges.of("T E: T + or - T; T: U * U", () -> {
            tongue("new 1+2-3*4*5+6=7;", 1);
            tongueFault("new 1+|=1;", 1);
            tongueFault("new |+1=1;", 1);
            tongueFault("new |-1=1;", 1);
            tongueFault("new |*1=1;", 1);
            tongueFault("new 1*|*1=1;", 1);
            tongueFault("new 1+|-1=1;", 1);
            tongueFault("new 1|/1=1;", 1);
            tongueFault("new 1 |1=1;", 1);
            tongueFault("new (1|;", 1);
            tongueFault("new (|)=1;", 1);
            tongueFault("new 1|)=1;", 1);
            tongueFault("new (1|]=1;", 1);
        });
        Edges.of("T G: H or H; H: I and I; I: not I, [ G ]", () -> {
            tongue("new 1=1 or 1=1 and not [1=1 or 1=1];", 1);
            tongueFault("new |or 1=1;", 1);
            tongueFault("new 1=1 or|;", 1);
            tongueFault("new 1=1 and |or 1=1;", 1);
            tongueFault("new 1=1 |not 1=1;", 1);
            tongueFault("new [1=1|;", 1);
            tongueFault("new [1=1|);", 1);
            tongueFault("new [|];", 1);
            tongueFault("new 1=1|];", 1);
            tongueFault("new |if 1=1;", 1);
        });
        Edges.of("T U: a word of the ten, and no other", () -> {
            for (String word : new String[] {"age", "hurts", "olds", "news", "oldn", "newn", "week", "held", "left",
                "shared"}) {
                tongue("new " + word + "=1;", 1);
                tongue("new 1=" + word + ";", 1);
                tongueFault("new |" + word + "s=1;", 1);
                tongueFault("new |" + word.substring(1) + "=1;", 1);
            }
            for (String word : new String[] {"new", "old", "both", "a", "hurt", "weeks"}) {
                tongueFault("new |" + word + "=1;", 1);
            }
        });
        Edges.of("T each of a TONGUE has its ;", () -> {
            tongueFault("new 1=1 |old 1=1;", 1);
            tongueFault("new 1=1|", 1);
            tongueFault("new 1=1;|;", 1);
        });
    }

    private static void tongueNumbers() {
        Edges.of("T U: N (0 to 999)", () -> {
            tongue("new 0=999;", 1);
            tongueFault("new |1000=1;", 2);
            tongueFault("new 1=|1000;", 2);
            tongueFault("new 1*(2+|4294967296)=1;", 2);
            tongueFault("new |99999999999999999999=1;", 2);
            tongue("new 0000000000999=1;", 1);
            tongueFault("new |00000000001000=1;", 2);
        });
        Edges.of("T FAULTS of a TONGUE, the first from the left, at its first byte", () -> {
            tongueFault("new   |1000=2000;", 2);
            tongueFault("new 1=1;old |x=1000;", 1);
            tongueFault("new |1000=x;", 2);
            tongueFault("  |nobody 1000=1;", 1);
        });
        Edges.of("T FAULTS 2 and 4 of a QUESTION: there are none", () -> {
            questionFault("", "|1000", 1);
            questionFault("", "|atoms 9", 1);
        });
        Edges.of("T FAULT 4 of a TONGUE: there is none", () -> tongueFault("new 1=1;|atoms 9;", 1));
    }

    private static void openInTongues() {
        Edges.of("T a 7th of ( that is open", () -> {
            tongue("new " + many("(", 6) + "1" + many(")", 6) + "=1;", 1);
            tongueFault("new " + many("(", 6) + "|(1" + many(")", 7) + "=1;", 3);
            tongueFault("new 1=" + many("(", 6) + "|(1", 3);
        });
        Edges.of("T a 7th of [ that is open in a TONGUE", () -> {
            tongue("new " + many("[", 6) + "1=1" + many("]", 6) + ";", 1);
            tongueFault("new " + many("[", 6) + "|[1=1" + many("]", 7) + ";", 3);
        });
        Edges.of("T a 7th of not that is open in a TONGUE", () -> {
            tongue("new " + many("not ", 6) + "1=1;", 1);
            tongueFault("new " + many("not ", 6) + "|not 1=1;", 3);
        });
        Edges.of("T a 7th of ( [ and not together", () -> {
            tongue("new not [not [((1))=1]];", 1);
            tongueFault("new not [not [((|(1)))=1]];", 3);
            tongueFault("new not [not [not [|not 1=1]]];", 3);
            tongueFault("new not [not [not [|[1=1]]]];", 3);
            tongueFault("new not [not [not [|(1)=1]]];", 3);
            tongueFault("new not [not [not [1=|(1)]]];", 3);
        });
        Edges.of("T ( [ and not are open till they end", () -> {
            tongue("new " + many("(1)+", 8) + "((((((1))))))=" + many("(1)*", 8) + "1;", 1);
            tongue("new " + many("not 1=1 and ", 8) + "not not not not not not 1=1;", 1);
            tongue("new " + many("[1=1]or ", 8) + "[[[[[[1=1]]]]]];", 1);
            tongue("new not ((((1))))=((((1)))) and [(((((1)))))=1];", 1);
            tongueFault("new not (((((1)))))=(((((|(1)))))) and 1=1;", 3);
            tongue(many("new not not not 1=1;", 8), 8);
        });
    }

    // ---- promises 6 and 7 ----

    private static void faultPlace() {
        Edges.of("6 NONE without a text", () -> Edges.due(new LotBeliefs().fault(), NONE));
        Edges.of("6 the place of the FAULT of the latest text", () -> {
            LotBeliefs x = new LotBeliefs();
            Feeder.jar(x, "law 9;");
            Edges.due(x.fault(), 4);
            Edges.due(x.fault(), 4);
            Feeder.question(x, "a or or");
            Edges.due(x.fault(), 5);
            Feeder.tongue(x, "new 1=?;");
            Edges.due(x.fault(), 6);
            Feeder.tongue(x, "?");
            Edges.due(x.fault(), 0);
            Feeder.jar(x, "law 9;");
            Edges.due(x.fault(), 4);
        });
        Edges.of("6 NONE behind a text without FAULTS", () -> {
            LotBeliefs x = new LotBeliefs();
            Feeder.jar(x, "law 9;");
            Feeder.jar(x, "law 1;");
            Edges.due(x.fault(), NONE);
            Feeder.question(x, "?");
            Feeder.question(x, "a");
            Edges.due(x.fault(), NONE);
            Feeder.tongue(x, "?");
            Feeder.tongue(x, "");
            Edges.due(x.fault(), NONE);
        });
        Edges.of("6 a text that is refused is none", () -> {
            LotBeliefs x = new LotBeliefs();
            Feeder.jar(x, "law 9;");
            Edges.argument(x, () -> x.jar(1));
            Edges.argument(x, () -> x.question(1));
            Edges.argument(x, () -> x.tongue(1));
            Edges.due(x.fault(), 4);
            Feeder.jar(x, "law 1;");
            Edges.argument(x, () -> x.jar(1));
            Edges.due(x.fault(), NONE);
        });
    }

    private static void told() {
        Edges.of("7 N, SLIPS, SEEINGS, SALTS, the world that IS, the LAW", () -> {
            LotBeliefs x = Edges.with("atoms 5;" + many("slip a;", 4) + many("see 1 a;", 3) + many("salt a;", 2)
                    + "world 31;law 1;");
            Edges.row(x::told, 5, 4, 3, 2, 31, 1);
            x.world(30);
            x.law(4);
            Edges.row(x::told, 5, 4, 3, 2, 30, 4);
        });
        Edges.of("7 IllegalArgumentException: another what", () -> {
            LotBeliefs x = new LotBeliefs();
            Edges.between(x, 0, 5, x::told);
        });
    }
}
