/** The edges of SLIPS and of sets in a WEEK (promises 8 to 14, 26 to 31, 40, 41, 43, 44, 47 to 49). */
public final class SlipEdgeTest {
    private static final int NONE = Edges.NONE;
    /** 0 a, 1 not a, 2 both, 3 one or both; a is seen in WEEK 2; both are so. */
    private static final String FOUR = "atoms 2;slip a;slip not a;slip a and b;slip a or b;see 2 a;world 3;";
    /** From WEEK 3 on no WORLD is LEFT. */
    private static final String LOST = "atoms 2;slip a;slip b;slip a and not a;see 1 a;see 3 not a;world 1;";
    private static final String TWELVE = "slip a;".repeat(11) + "slip not a;";

    public static void main(String[] args) {
        models();
        left();
        kin();
        fallOut();
        truthsAndDull();
        fits();
        sets();
        whole();
        proof();
        split();
        likely();
        together();
        quarrels();
        known();
        plain();
        asks();
        Edges.done();
    }

    private static void models() {
        Edges.of("8 MODELS of a SLIP, whatever is seen", () -> {
            LotBeliefs x = Edges.with(LOST);
            Edges.row(x::models, 10, 12, 0);
        });
        Edges.of("8 IndexOutOfBoundsException: no such SLIP", () -> {
            for (int slips = 0; slips <= 12; slips++) {
                LotBeliefs x = Edges.with("slip a;".repeat(slips) + "salt a;salt b;see 1 a;see 2 a;");
                Edges.numbered(x, slips, x::models);
                if (slips > 0) {
                    Edges.due(x.models(slips - 1), 0xAAAA);
                }
            }
        });
        Edges.of("9 of a SEEING: its MODELS, in whatever WEEK", () -> {
            LotBeliefs x = Edges.with("atoms 2;see 51 a;see 0 b;see 51 a and not a;see 3 a or not a;");
            Edges.row(x::seen, 10, 12, 0, 15);
        });
        Edges.of("9 IndexOutOfBoundsException: no such SEEING", () -> {
            for (int seeings = 0; seeings <= 12; seeings++) {
                LotBeliefs x = Edges.with("see 0 a;".repeat(seeings) + "slip a;slip b;salt a;");
                Edges.numbered(x, seeings, x::seen);
                if (seeings > 0) {
                    Edges.due(x.seen(seeings - 1), 0xAAAA);
                }
            }
        });
    }

    private static void left() {
        Edges.of("10 a WEEK (0 to 51)", () -> {
            LotBeliefs x = Edges.with(FOUR);
            Edges.between(x, 0, 51, x::left);
        });
        Edges.of("T LEFT: all that was seen in it and ahead", () -> {
            LotBeliefs x = Edges.with("atoms 2;see 7 b;see 3 a;see 3 a or b;see 51 not b;");
            for (int week = 0; week < 52; week++) {
                Edges.due(x.left(week), week < 3 ? 15 : week < 7 ? 10 : week < 51 ? 8 : 0);
            }
        });
        Edges.of("T LEFT from WEEK 0 on, and none", () -> {
            Edges.due(Edges.with("atoms 1;see 0 a;").left(0), 2);
            Edges.due(Edges.with("atoms 1;see 0 a;see 0 not a;").left(0), 0);
            Edges.due(Edges.with("atoms 6;").left(51), -1);
            Edges.due(Edges.with("atoms 6;see 0 a and b and c and d and e and f;").left(0), Long.MIN_VALUE);
        });
    }

    private static void kin() {
        Edges.of("11 each of the five", () -> {
            LotBeliefs x = Edges.with(FOUR);
            Edges.row(other -> x.kin(0, other), 0, 3, 2, 1);
            Edges.row(other -> x.kin(1, other), 3, 0, 3, 4);
            Edges.row(other -> x.kin(2, other), 1, 3, 0, 1);
            Edges.row(other -> x.kin(3, other), 2, 4, 2, 0);
        });
        Edges.of("11 the least that is so", () -> {
            LotBeliefs x = Edges.with("slip a and not a;slip b and not b;slip c;slip d or not d;slip not c;");
            Edges.row(other -> x.kin(0, other), 0, 0, 1, 1, 1);
            Edges.row(other -> x.kin(2, other), 2, 2, 0, 1, 3);
            Edges.row(other -> x.kin(3, other), 2, 2, 2, 0, 2);
        });
        Edges.of("11 alike though told in other words", () ->
                Edges.due(Edges.with("slip if a then b;slip not [a and not b];").kin(0, 1), 0));
        Edges.of("11 in all WORLDS, not in those that are LEFT", () -> {
            LotBeliefs x = Edges.with("slip a;slip b;slip not b;see 0 a and b;");
            Edges.row(other -> x.kin(0, other), 0, 4, 4);
        });
        Edges.of("11 IndexOutOfBoundsException: no such SLIP, the one or the other", () -> {
            LotBeliefs x = Edges.with(FOUR);
            Edges.numbered(x, 4, i -> x.kin(i, 0));
            Edges.numbered(x, 4, i -> x.kin(0, i));
            Edges.numbered(x, 4, i -> x.kin(i, i));
        });
    }

    private static void fallOut() {
        Edges.of("T two FALL OUT, if no WORLD that is LEFT has both", () -> {
            LotBeliefs x = Edges.with("slip a;slip b;slip not a;see 4 not a or not b;");
            for (int week = 0; week < 52; week++) {
                Edges.due(x.fallOut(0, 1, week), week >= 4);
                Edges.due(x.fallOut(1, 0, week), week >= 4);
                Edges.due(x.fallOut(0, 2, week), true);
                Edges.due(x.fallOut(1, 2, week), false);
            }
        });
        Edges.of("12 a SLIP and itself", () -> {
            LotBeliefs x = Edges.with("slip a;slip a and not a;see 5 not a;");
            Edges.due(x.fallOut(0, 0, 4), false);
            Edges.due(x.fallOut(0, 0, 5), true);
            Edges.due(x.fallOut(1, 1, 0), true);
        });
        Edges.of("12 no WORLD is LEFT: all FALL OUT", () -> Edges.due(Edges.with(LOST).fallOut(0, 1, 3), true));
        Edges.of("12 IndexOutOfBoundsException ahead of others; WEEK 0 to 51", () -> {
            LotBeliefs x = Edges.with(FOUR);
            Edges.numbered(x, 4, i -> x.fallOut(i, 0, 0) ? 1 : 0);
            Edges.numbered(x, 4, i -> x.fallOut(0, i, 0) ? 1 : 0);
            Edges.numbered(x, 4, i -> x.fallOut(i, 0, 52) ? 1 : 0);
            Edges.numbered(x, 4, i -> x.fallOut(0, i, -1) ? 1 : 0);
            Edges.between(x, 0, 51, week -> x.fallOut(0, 3, week) ? 1 : 0);
        });
    }

    private static void truthsAndDull() {
        Edges.of("13 SLIPS that are so in the world that IS, as bits", () -> {
            LotBeliefs x = Edges.with(FOUR.replace("world 3", "world 0"));
            int[] due = {2, 9, 10, 13};
            for (int world = 0; world < 4; world++) {
                x.world(world);
                Edges.due(x.truths(), due[world]);
            }
        });
        Edges.of("13 all twelve, or none; SALTS are not among them", () -> {
            LotBeliefs x = Edges.with("slip a;".repeat(12) + "salt a;world 1;");
            Edges.due(x.truths(), 4095);
            x.world(0);
            Edges.due(x.truths(), 0);
            Edges.due(Edges.with("atoms 6;slip f;slip not f;world 63;").truths(), 1);
            Edges.due(Edges.with("salt a;world 1;").truths(), 0);
        });
        Edges.of("14 no SEEING told ever kills it: of the first and the last WEEK too", () -> {
            Edges.due(Edges.with("slip a;slip not a;slip b;see 0 a;").dull(), 5);
            Edges.due(Edges.with("slip a;slip not a;slip b;see 51 a;").dull(), 5);
            Edges.due(Edges.with("slip a;slip b;see 51 not a;see 0 not b;").dull(), 0);
        });
        Edges.of("14 what SEEINGS kill together, they kill", () -> {
            Edges.due(Edges.with("slip a and b;slip a;slip b;see 9 not a or not b;see 2 a or b;").dull(), 6);
            Edges.due(Edges.with("slip a and b;slip c;see 9 not a or c;see 2 not b or not c;").dull(), 2);
        });
        Edges.of("14 without SEEINGS none is killed by one", () ->
                Edges.due(Edges.with("slip a;".repeat(11) + "slip b;").dull(), 4095));
        Edges.of("14 whatever the ORDER, the LAW and the world that IS", () -> {
            LotBeliefs x = Edges.with(FOUR);
            for (int i = 0; i < 4; i++) {
                x.world(i);
                x.law(i);
                x.order(0x3210);
                Edges.due(x.dull(), 13);
            }
        });
        Edges.of("14 where no WORLD is LEFT all are killed", () -> Edges.due(Edges.with(LOST).dull(), 0));
    }

    private static void fits() {
        Edges.of("26 a set FITS, if some WORLD that is LEFT has all of it", () -> {
            LotBeliefs x = Edges.with(FOUR);
            boolean[] first = {true, true, true, false, true, true, false, false, true, true, true, false, true, true,
                false, false};
            for (int set = 0; set < 16; set++) {
                Edges.due(x.fits(set, 1), first[set]);
                Edges.due(x.fits(set, 2), first[set] && (set & 2) == 0);
            }
        });
        Edges.of("26 the empty set FITS as long as a WORLD is LEFT", () -> {
            LotBeliefs x = Edges.with(LOST);
            Edges.due(x.fits(0, 2), true);
            Edges.due(x.fits(0, 3), false);
        });
        Edges.of("26 IllegalArgumentException: bits of no SLIPS, WEEK", () -> {
            for (int slips = 0; slips <= 12; slips++) {
                LotBeliefs x = Edges.with("slip a;".repeat(slips) + "salt b;");
                Edges.between(x, 0, (1 << slips) - 1, set -> x.fits(set, 0) ? 1 : 0);
                Edges.between(x, 0, 51, week -> x.fits(0, week) ? 1 : 0);
            }
        });
        Edges.of("26 the last of twelve bits counts", () -> {
            LotBeliefs x = Edges.with(TWELVE);
            Edges.due(x.fits(2047, 0), true);
            Edges.due(x.fits(2048, 0), true);
            Edges.due(x.fits(2049, 0), false);
            Edges.due(x.fits(4095, 0), false);
        });
    }

    private static void sets() {
        Edges.of("27 IllegalArgumentException: WEEK, what", () -> {
            LotBeliefs x = Edges.with(FOUR);
            Edges.between(x, 0, 51, week -> x.sets(week, 0));
            Edges.between(x, 0, 3, what -> x.sets(0, what));
        });
        Edges.of("27 how many sets FIT: none to all", () -> {
            LotBeliefs x = Edges.with(LOST);
            Edges.row(w -> x.sets(w, 0), 4, 4, 4, 0, 0);
            Edges.due(Edges.with("slip a;".repeat(12)).sets(51, 0), 4096);
            Edges.due(Edges.with(TWELVE).sets(0, 0), 2049);
        });
        Edges.of("T GREATEST: that of the most SLIPS, of these the least", () -> {
            Edges.due(Edges.with("slip a;slip not a;slip not a;").sets(0, 1), 6);
            Edges.due(Edges.with("slip a;slip not a;").sets(0, 1), 1);
            Edges.due(Edges.with("slip a;slip b;slip not a;slip not b;").sets(0, 1), 3);
            Edges.due(Edges.with("slip a and not a;slip b;").sets(0, 1), 2);
            Edges.due(Edges.with("slip a and not a;").sets(0, 1), 0);
            Edges.due(Edges.with("slip a;".repeat(12)).sets(0, 1), 4095);
        });
        Edges.of("27 GREATEST: NONE: none does", () -> {
            LotBeliefs x = Edges.with(LOST);
            Edges.due(x.sets(2, 1), 3);
            Edges.due(x.sets(3, 1), NONE);
        });
        Edges.of("27 how many are WHOLE", () -> {
            Edges.due(Edges.with("slip a;slip not a;slip b;slip not b;").sets(0, 2), 4);
            Edges.due(Edges.with("slip a;".repeat(12)).sets(0, 2), 1);
            Edges.due(Edges.with(TWELVE).sets(0, 2), 2);
            Edges.due(Edges.with("slip a and not a;").sets(0, 2), 1);
            Edges.due(Edges.with(LOST).sets(3, 2), 0);
        });
        Edges.of("T CORE: the fewest, then the least bits, that does not FIT", () -> {
            Edges.due(Edges.with("slip a;slip not a;slip b;slip not b;").sets(0, 3), 3);
            Edges.due(Edges.with("slip b;slip a;slip not b or not a;slip not a;").sets(0, 3), 10);
            Edges.due(Edges.with("slip a;slip not a;slip b and not b;").sets(0, 3), 4);
            Edges.due(Edges.with("slip a or b;slip not a;slip not b;").sets(0, 3), 7);
            Edges.due(Edges.with(TWELVE).sets(0, 3), 2049);
        });
        Edges.of("27 CORE: NONE: there is none; none LEFT: the empty set", () -> {
            Edges.due(Edges.with("slip a;slip b;").sets(0, 3), NONE);
            Edges.due(Edges.with("slip a;".repeat(12)).sets(51, 3), NONE);
            LotBeliefs x = Edges.with(LOST);
            Edges.row(w -> x.sets(w, 3), 4, 4, 4, 0);
        });
        Edges.of("27 in a WEEK: by what is LEFT in it", () -> {
            LotBeliefs x = Edges.with("slip a;slip b;see 51 not a or not b;");
            Edges.row(what -> x.sets(50, what), 4, 3, 1, NONE);
            Edges.row(what -> x.sets(51, what), 3, 1, 2, 3);
        });
        Edges.of("T of a WEEK (no ORDER), the LAW or the world that IS", () -> {
            LotBeliefs x = Edges.with("slip a;slip not a;slip b;");
            x.order(0x210);
            x.law(2);
            x.world(9);
            Edges.row(what -> x.sets(0, what), 6, 5, 2, 3);
        });
    }

    private static void whole() {
        Edges.of("28 the i-th WHOLE set by bits, the least first; NONE: none such", () -> {
            LotBeliefs x = Edges.with("slip a;slip not a;slip b;slip not b;");
            Edges.row(i -> x.whole(0, i), 5, 6, 9, 10, NONE, NONE);
            LotBeliefs y = Edges.with(TWELVE);
            Edges.row(i -> y.whole(0, i), 2047, 2048, NONE);
            for (int i : new int[] {-1, 4, 5, 4096, Integer.MIN_VALUE, Integer.MAX_VALUE}) {
                Edges.due(x.whole(0, i), NONE);
            }
        });
        Edges.of("28 the empty set is WHOLE where no SLIP can be so", () -> {
            LotBeliefs x = Edges.with("slip a and not a;slip b;see 1 not b;");
            Edges.row(i -> x.whole(0, i), 2, NONE);
            Edges.row(i -> x.whole(1, i), 0, NONE);
        });
        Edges.of("28 none is WHOLE where no WORLD is LEFT", () -> Edges.due(Edges.with(LOST).whole(3, 0), NONE));
        Edges.of("27, 28 no SLIP of a JAR that was read ahead counts", () -> {
            LotBeliefs x = new LotBeliefs();
            for (int slips = 12; slips >= 0; slips--) {
                Feeder.jar(x, "slip a;".repeat(slips));
                Edges.row(what -> x.sets(0, what), 1 << slips, (1 << slips) - 1, 1, NONE);
                Edges.row(i -> x.whole(0, i), (1 << slips) - 1, NONE);
                Edges.due(x.peace(0), (1 << slips) - 1);
            }
        });
        Edges.of("28 IllegalArgumentException: WEEK", () -> {
            LotBeliefs x = Edges.with(FOUR);
            Edges.between(x, 0, 51, week -> x.whole(week, 0));
            Edges.between(x, 0, 51, week -> x.whole(week, -1));
        });
    }

    private static void proof() {
        Edges.of("29 IllegalArgumentException: WEEK", () -> {
            LotBeliefs x = Edges.with(FOUR);
            Edges.between(x, 0, 51, x::proof);
        });
        Edges.of("T PROOF: the fewest, then the least bits", () -> {
            String jar = "slip c;slip a;slip if a then b;slip b and d;slip b and c;";
            Edges.due(Edges.asking(jar, "b").proof(0), 8);
            Edges.due(Edges.asking(jar, "b and a").proof(0), 6);
            Edges.due(Edges.asking(jar, "b and c").proof(0), 16);
            Edges.due(Edges.asking(jar, "b and c and d").proof(0), 9);
            Edges.due(Edges.asking(jar, "a and b and c and d").proof(0), 11);
        });
        Edges.of("T PROOF: a set that FITS, not one that can't be", () -> {
            String jar = "slip a;slip not a;slip b;";
            Edges.due(Edges.asking(jar, "c").proof(0), NONE);
            Edges.due(Edges.asking("slip a and not a;", "c").proof(0), NONE);
            Edges.due(Edges.asking(LOST, "a").proof(2), 0);
            Edges.due(Edges.asking(LOST, "a").proof(3), NONE);
        });
        Edges.of("T PROOF: so in all WORLDS that are LEFT: the empty set", () -> {
            Edges.due(Edges.asking("slip a;", "a or not a").proof(0), 0);
            LotBeliefs x = Edges.asking("slip a;see 2 a;", "a");
            Edges.row(x::proof, 1, 1, 0, 0);
            Edges.due(Edges.asking("slip a;", "a and not a").proof(0), NONE);
        });
        Edges.of("T PROOF and CORE: all twelve", () -> {
            StringBuilder jar = new StringBuilder();
            for (int world = 0; world < 12; world++) {
                jar.append("slip not [").append(world(world)).append("];");
            }
            LotBeliefs x = Edges.asking(jar + "see 1 not [c and d];", "c and d");
            Edges.due(x.proof(0), 4095);
            Edges.due(x.proof(1), NONE);
            Edges.row(w -> x.sets(w, 3), NONE, 4095);
        });
        Edges.of("1 no QUESTION: it is always so", () -> {
            LotBeliefs x = Edges.with(LOST);
            Edges.row(x::proof, 0, 0, 0, NONE);
            Edges.due(Edges.with("atoms 6;slip f;").proof(0), 0);
        });
    }

    /** The sentence that is so in one WORLD of four ATOMS. */
    private static String world(int world) {
        StringBuilder b = new StringBuilder();
        for (int atom = 0; atom < 4; atom++) {
            b.append(atom > 0 ? " and " : "").append((world >> atom & 1) != 0 ? "" : "not ").append((char) ('a' + atom));
        }
        return b.toString();
    }

    private static void split() {
        Edges.of("30 IllegalArgumentException: WEEK, what", () -> {
            LotBeliefs x = Edges.with(FOUR);
            Edges.between(x, 0, 51, week -> x.split(week, 0));
            Edges.between(x, 0, 1, what -> x.split(0, what));
        });
        Edges.of("T SPLIT: fewest at the worst, of these the first", () -> {
            Edges.row(what -> Edges.with("atoms 6;").split(0, what), 0, 32);
            Edges.row(what -> Edges.with("atoms 6;see 0 a and b and c and d and e;").split(0, what), 5, 1);
            Edges.row(what -> Edges.with("atoms 6;see 0 a and b and c and d;").split(0, what), 4, 2);
            Edges.row(what -> Edges.with("atoms 3;see 0 a or b;see 0 c;").split(0, what), 0, 2);
            Edges.row(what -> Edges.with("atoms 3;see 0 a;see 0 b or c;").split(0, what), 1, 2);
            Edges.row(what -> Edges.with("atoms 2;see 0 a;").split(0, what), 1, 1);
            Edges.row(what -> Edges.with("atoms 2;see 0 not a;").split(0, what), 1, 1);
        });
        Edges.of("T SPLIT: one WORLD LEFT, or none", () -> {
            Edges.row(what -> Edges.with("atoms 1;see 0 a;").split(0, what), 0, 1);
            Edges.row(what -> Edges.with("atoms 6;see 0 a and b and c and d and e and f;").split(0, what), 0, 1);
            Edges.row(what -> Edges.with("atoms 3;see 0 a;see 0 not a;").split(0, what), 0, 0);
        });
        Edges.of("30 by what is LEFT in the WEEK", () -> {
            LotBeliefs x = Edges.with("atoms 2;see 51 a;");
            Edges.row(what -> x.split(50, what), 0, 2);
            Edges.row(what -> x.split(51, what), 1, 1);
        });
    }

    private static void likely() {
        Edges.of("31 IllegalArgumentException: WEEK", () -> {
            LotBeliefs x = Edges.with(FOUR);
            Edges.between(x, 0, 51, x::likely);
        });
        Edges.of("31 most SLIPS are so, of these the first", () -> {
            Edges.due(Edges.with("slip a;slip not a;").likely(0), 0);
            Edges.due(Edges.with("slip a;slip b;").likely(0), 3);
            Edges.due(Edges.with("slip a;slip b;see 0 not a or not b;").likely(0), 1);
            Edges.due(Edges.with("slip not a;slip b;slip not b;").likely(0), 0);
            Edges.due(Edges.with("atoms 6;slip a;slip b;slip c;slip d;slip e;slip f;").likely(0), 63);
            Edges.due(Edges.with("atoms 1;slip a;").likely(0), 1);
        });
        Edges.of("31 of those that are LEFT in the WEEK", () -> {
            LotBeliefs x = Edges.with("slip a;see 51 not a;");
            Edges.due(x.likely(50), 1);
            Edges.due(x.likely(51), 0);
            Edges.due(Edges.with("see 0 a and b;").likely(0), 3);
        });
        Edges.of("31 SALTS do not count", () -> Edges.due(Edges.with("salt a;salt b;").likely(0), 0));
        Edges.of("31 NONE: none is LEFT", () -> {
            LotBeliefs x = Edges.with(LOST);
            Edges.row(x::likely, 3, 3, 3, NONE);
        });
    }

    private static void together() {
        Edges.of("40 WORLDS that are LEFT and have all of a set", () -> {
            LotBeliefs x = Edges.with(FOUR);
            Edges.row(set -> x.together(set, 1), 15, 10, 5, 0, 8, 8, 0, 0, 14, 10, 4, 0, 8, 8, 0, 0);
            Edges.row(set -> x.together(set, 2), 10, 10, 0, 0, 8, 8, 0, 0, 10, 10, 0, 0, 8, 8, 0, 0);
        });
        Edges.of("40 the highest of 64 WORLDS", () -> {
            LotBeliefs x = Edges.with("atoms 6;slip a;slip b;slip c;slip d;slip e;slip f;");
            Edges.due(x.together(63, 0), Long.MIN_VALUE);
            Edges.due(x.together(0, 0), -1);
        });
        Edges.of("40 IllegalArgumentException: bits of no SLIPS, WEEK", () -> {
            for (int slips = 0; slips <= 12; slips++) {
                LotBeliefs x = Edges.with("slip a;".repeat(slips) + "salt b;");
                Edges.between(x, 0, (1 << slips) - 1, set -> x.together(set, 0));
                Edges.between(x, 0, 51, week -> x.together(0, week));
                Edges.due(x.together((1 << slips) - 1, 0), slips == 0 ? 65535 : 0xAAAA);
            }
        });
        Edges.of("41 SLIPS that are so in all WORLDS that are LEFT and have all of it", () -> {
            LotBeliefs x = Edges.with(FOUR);
            Edges.row(set -> x.following(set, 1), 0, 9, 2, 15, 13, 13, 15, 15, 8, 9, 10, 15, 13, 13, 15, 15);
            Edges.row(set -> x.following(set, 2), 9, 9, 15, 15, 13, 13, 15, 15, 9, 9, 15, 15, 13, 13, 15, 15);
        });
        Edges.of("41 all, if there are none", () -> {
            Edges.due(Edges.with(LOST).following(0, 3), 7);
            Edges.due(Edges.with(LOST).following(4, 0), 7);
            Edges.due(Edges.with(TWELVE).following(2049, 0), 4095);
        });
        Edges.of("41 from the empty set: what is so in all that are LEFT", () -> {
            LotBeliefs x = Edges.with(LOST);
            Edges.row(w -> x.following(0, w), 0, 1, 1, 7);
            Edges.due(Edges.with("slip a or not a;slip a;").following(0, 0), 1);
        });
        Edges.of("41 IllegalArgumentException: bits of no SLIPS, WEEK", () -> {
            for (int slips = 0; slips <= 12; slips++) {
                LotBeliefs x = Edges.with("slip a;".repeat(slips) + "salt b;");
                Edges.between(x, 0, (1 << slips) - 1, set -> x.following(set, 0));
                Edges.between(x, 0, 51, week -> x.following(0, week));
            }
        });
    }

    private static void quarrels() {
        Edges.of("43 how many pairs FALL OUT in a WEEK: none to all", () -> {
            Edges.due(Edges.with("slip a;".repeat(12)).quarrels(51), 0);
            Edges.due(Edges.with("slip a and not a;".repeat(12)).quarrels(0), 66);
            Edges.due(Edges.with(TWELVE).quarrels(0), 11);
            LotBeliefs lost = Edges.with(LOST);
            Edges.row(lost::quarrels, 2, 2, 2, 3);
            LotBeliefs x = Edges.with("slip a;slip b;see 51 not a or not b;");
            Edges.due(x.quarrels(50), 0);
            Edges.due(x.quarrels(51), 1);
        });
        Edges.of("43 a pair is of two: none with itself", () -> {
            Edges.due(Edges.with("slip a and not a;").quarrels(0), 0);
            Edges.due(Edges.with("slip a and not a;slip b;").quarrels(0), 1);
        });
        Edges.of("43 IllegalArgumentException: WEEK", () -> {
            LotBeliefs x = Edges.with(FOUR);
            Edges.between(x, 0, 51, x::quarrels);
        });
        Edges.of("T PEACE: that of the most, of these the least bits", () -> {
            Edges.due(Edges.with("slip a;slip not a;slip not a;").peace(0), 6);
            Edges.due(Edges.with("slip a;slip not a;").peace(0), 1);
            Edges.due(Edges.with("slip a;slip b;slip not a;slip not b;").peace(0), 3);
            Edges.due(Edges.with(TWELVE).peace(0), 2047);
            Edges.due(Edges.with("slip not a;" + "slip a;".repeat(11)).peace(0), 4094);
            Edges.due(Edges.with("slip a;".repeat(12)).peace(0), 4095);
        });
        Edges.of("T PEACE: two by two, though all do not FIT", () -> {
            LotBeliefs x = Edges.with("slip a or b;slip not a;slip not b;");
            Edges.due(x.peace(0), 7);
            Edges.due(x.fits(7, 0), false);
        });
        Edges.of("T PEACE: nor one by itself", () -> {
            Edges.due(Edges.with("slip a and not a;slip b;").peace(0), 2);
            Edges.due(Edges.with("slip a and not a;").peace(0), 0);
            LotBeliefs x = Edges.with(LOST);
            Edges.row(x::peace, 3, 3, 3, 0);
        });
        Edges.of("44 IllegalArgumentException: WEEK", () -> {
            LotBeliefs x = Edges.with(FOUR);
            Edges.between(x, 0, 51, x::peace);
        });
    }

    private static void known() {
        Edges.of("47 1 in all, 0 in none, 2 in some", () -> {
            LotBeliefs x = Edges.with("atoms 3;see 0 a;see 4 not b;");
            Edges.row(atom -> x.known(atom, 3), 1, 2, 2);
            Edges.row(atom -> x.known(atom, 4), 1, 0, 2);
            LotBeliefs y = Edges.with("atoms 6;see 51 not a;see 51 f;");
            Edges.row(atom -> y.known(atom, 50), 2, 2, 2, 2, 2, 2);
            Edges.row(atom -> y.known(atom, 51), 0, 2, 2, 2, 2, 1);
        });
        Edges.of("47 NONE: none is LEFT", () -> {
            LotBeliefs x = Edges.with(LOST);
            Edges.row(atom -> x.known(atom, 2), 1, 2);
            Edges.row(atom -> x.known(atom, 3), NONE, NONE);
        });
        Edges.of("47 IllegalArgumentException: no such ATOM, WEEK", () -> {
            for (int atoms = 1; atoms <= 6; atoms++) {
                LotBeliefs x = Edges.with("atoms " + atoms + ";");
                Edges.between(x, 0, atoms - 1, atom -> x.known(atom, 0));
                Edges.between(x, 0, 51, week -> x.known(0, week));
            }
            LotBeliefs y = new LotBeliefs();
            Edges.between(y, 0, 3, atom -> y.known(atom, 51));
        });
    }

    private static int plain(int atoms, String sentence) {
        return Edges.with("atoms " + atoms + ";slip " + sentence + ";").plain(0);
    }

    private static void plain() {
        Edges.of("48 IllegalStateException: more than 3 ATOMS", () -> {
            for (int atoms = 1; atoms <= 6; atoms++) {
                LotBeliefs x = Edges.with("atoms " + atoms + ";slip a;");
                if (atoms <= 3) {
                    Edges.due(x.plain(0), 1);
                } else {
                    Edges.state(x, () -> x.plain(0));
                }
            }
            LotBeliefs four = Edges.with("slip a;");
            Edges.state(four, () -> four.plain(0));
        });
        Edges.of("48 IndexOutOfBoundsException ahead of IllegalStateException", () -> {
            LotBeliefs x = Edges.with("atoms 6;slip a;slip b;");
            Edges.numbered(x, 2, x::plain);
            LotBeliefs y = Edges.with("atoms 3;slip a;slip b;");
            Edges.numbered(y, 2, y::plain);
        });
        Edges.of("T PLAIN: ATOMS, not, and, or count 1 each, [ ] nothing", () -> {
            for (int atoms = 2; atoms <= 3; atoms++) {
                Edges.due(plain(atoms, "b"), 1);
                Edges.due(plain(atoms, "not b"), 2);
                Edges.due(plain(atoms, "[[a] or [b]]"), 3);
                Edges.due(plain(atoms, "a and not b"), 4);
                Edges.due(plain(atoms, "not a and not b"), 4);
                Edges.due(plain(atoms, "[a and b] or [not a and not b]"), 8);
            }
            Edges.due(plain(3, "[a or b] and c"), 5);
            Edges.due(plain(3, "not a and not b and not c"), 6);
            Edges.due(plain(3, "a and b or a and c or b and c"), 9);
        });
        Edges.of("T PLAIN: if is none", () -> {
            Edges.due(plain(2, "if a then b"), 4);
            Edges.due(plain(2, "if not a then b"), 3);
            Edges.due(plain(3, "if a then if b then c"), 6);
        });
        Edges.of("T PLAIN: what is so in all WORLDS, or none, likewise", () -> {
            for (int atoms = 1; atoms <= 3; atoms++) {
                Edges.due(plain(atoms, "a or not a"), 4);
                Edges.due(plain(atoms, "a and not a"), 4);
                Edges.due(plain(atoms, "if a then a"), 4);
            }
        });
        Edges.of("T PLAIN: the shortest with just its MODELS, not as it is told", () -> {
            Edges.due(plain(2, "not not not not a"), 1);
            Edges.due(plain(2, "a and b or a and not b"), 1);
            Edges.due(plain(3, "a and [b or not b] and [c or not c]"), 1);
            Edges.due(plain(1, "not a"), 2);
        });
        Edges.of("48 for each number of ATOMS by itself, one JAR behind another", () -> {
            LotBeliefs x = new LotBeliefs();
            for (int round = 0; round < 2; round++) {
                for (int atoms = 3; atoms >= 1; atoms--) {
                    Feeder.jar(x, "atoms " + atoms + ";slip a or not a;slip not a;");
                    Edges.row(x::plain, 4, 2);
                }
            }
        });
    }

    private static void asks() {
        Edges.of("49 IllegalArgumentException: WEEK", () -> {
            LotBeliefs x = Edges.with(FOUR);
            Edges.between(x, 0, 51, x::asks);
        });
        Edges.of("T ASKS: the fewest, then the least bits", () -> {
            Edges.due(Edges.with("atoms 3;see 0 [a and b and c] or [not a and not b and c];world 7;").asks(0), 1);
            Edges.due(Edges.with("atoms 3;see 0 [a and b] or [not a and not b and not c];world 0;").asks(0), 1);
            Edges.due(Edges.with("atoms 3;see 0 [a and b] or [not a and not b and not c];world 7;").asks(0), 4);
            String three = "[a and b and c] or [a and not b and not c] or [b and not a and not c]";
            Edges.due(Edges.with("atoms 3;see 0 " + three + ";world 7;").asks(0), 4);
            Edges.due(Edges.with("atoms 3;see 0 c;world 4;").asks(0), 3);
            Edges.due(Edges.with("atoms 3;see 0 a;world 1;").asks(0), 6);
            Edges.due(Edges.with("atoms 3;see 0 not a and not b or a and b and c;world 7;").asks(0), 1);
        });
        Edges.of("T ASKS: all ATOMS, or none", () -> {
            for (int atoms = 1; atoms <= 6; atoms++) {
                Edges.due(Edges.with("atoms " + atoms + ";world " + ((1 << atoms) - 1) + ";").asks(0), (1 << atoms) - 1);
                Edges.due(Edges.with("atoms " + atoms + ";world 0;").asks(51), (1 << atoms) - 1);
            }
            Edges.due(Edges.with("atoms 1;see 0 a;world 1;").asks(0), 0);
            Edges.due(Edges.with("atoms 1;see 0 not a;world 0;").asks(0), 0);
        });
        Edges.of("T ASKS: told as they are in the world that IS", () -> {
            LotBeliefs x = Edges.with("atoms 2;see 0 a or b;");
            int[] due = {NONE, 2, 1, 3};
            for (int world = 0; world < 4; world++) {
                x.world(world);
                Edges.due(x.asks(0), due[world]);
            }
        });
        Edges.of("49 NONE: the world that IS is not LEFT", () -> {
            LotBeliefs x = Edges.with("atoms 2;see 51 a;world 0;");
            Edges.due(x.asks(50), 3);
            Edges.due(x.asks(51), NONE);
            LotBeliefs y = Edges.with(LOST);
            Edges.row(y::asks, 3, 2, 2, NONE);
        });
    }
}
