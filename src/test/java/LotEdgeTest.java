/** The edges of ORDERS by the many, SALTS, LAWS compared and SCHOOLS (promises 23 to 25, 32 to 38, 45, 46, 50). */
public final class LotEdgeTest {
    private static final int NONE = Edges.NONE;
    private static final String FOUR = "atoms 2;slip a;slip not a;slip a and b;slip a or b;see 2 a;world 3;";
    private static final String SEVEN = "slip a;".repeat(7);
    private static final String EIGHT = "slip a;".repeat(8);

    public static void main(String[] args) {
        sevenSlips();
        ends();
        freshEnds();
        best();
        compared();
        worst();
        salted();
        salty();
        draw();
        drawn();
        century();
        school();
        right();
        war();
        Edges.done();
    }

    // ---- all orders ----

    private static void sevenSlips() {
        Edges.of("23 to 25, 34, 45 IllegalStateException: more than 7 SLIPS", () -> {
            for (int slips = 8; slips <= 12; slips++) {
                LotBeliefs x = Edges.with("slip a;".repeat(slips));
                Edges.state(x, () -> x.ends(0));
                Edges.state(x, () -> x.orders(0));
                Edges.state(x, x::best);
                Edges.state(x, () -> x.compared(0));
                Edges.state(x, () -> x.worst(0));
            }
        });
        Edges.of("T by all ORDERS of 7 SLIPS at most", () -> {
            int orders = 1;
            for (int slips = 0; slips <= 7; slips++) {
                orders *= Math.max(1, slips);
                LotBeliefs x = Edges.with("slip a;".repeat(slips) + "world 1;");
                Edges.row(x::ends, 1, (1 << slips) - 1, 0);
                Edges.numbered(x, slips, x::orders);
                if (slips > 0) {
                    Edges.due(x.orders(slips - 1), orders);
                }
                Edges.due(x.best(), slips);
                Edges.due(x.compared(0), slips * orders);
                Edges.row(x::worst, 0, hex(slips));
            }
        });
        Edges.of("23, 34, 45 IllegalArgumentException: another what, another LAW", () -> {
            LotBeliefs x = Edges.with(FOUR);
            Edges.between(x, 0, 2, x::ends);
            Edges.between(x, 0, 4, x::compared);
            Edges.between(x, 0, 1, x::worst);
        });
        Edges.of("24 IndexOutOfBoundsException ahead of IllegalStateException", () -> {
            LotBeliefs x = Edges.with(EIGHT);
            Edges.numbered(x, 8, x::orders);
        });
        Edges.of("T more than 7 SLIPS: the ORDER stays with best", () -> {
            LotBeliefs x = Edges.with(EIGHT);
            x.order(0x76543210L);
            Edges.state(x, x::best);
            Edges.row(x::at, 7, 6, 5, 4, 3, 2, 1, 0);
        });
    }

    private static long hex(int slips) {
        long order = 0;
        for (int i = 0; i < slips; i++) {
            order = order * 16 + i;
        }
        return order;
    }

    private static void ends() {
        Edges.of("23 how many unlike ENDS, ALWAYS, NEVER", () -> {
            Edges.row(Edges.with(FOUR)::ends, 3, 8, 2);
            Edges.row(Edges.with("slip a;slip not a;law 0;")::ends, 1, 0, 3);
            Edges.row(Edges.with("slip a;slip not a;law 1;")::ends, 2, 0, 0);
            Edges.row(Edges.with("slip a;slip not a;slip b;see 51 not b;law 2;")::ends, 2, 0, 4);
            Edges.row(Edges.with("slip a and not a;slip b;")::ends, 1, 2, 1);
        });
        Edges.of("23 unlike ENDS: those that only the ORDER makes unlike are one", () -> {
            Edges.row(Edges.with("slip a;slip b;slip c;")::ends, 1, 7, 0);
            Edges.row(Edges.with("slip a;slip a;slip not a;law 1;")::ends, 2, 0, 0);
        });
        Edges.of("23 seven unlike ENDS of seven", () -> {
            StringBuilder jar = new StringBuilder("atoms 3;law 1;");
            for (int i = 0; i < 7; i++) {
                jar.append("slip ").append((i & 1) != 0 ? "" : "not ").append("a and ").append((i & 2) != 0 ? "" : "not ")
                        .append("b and ").append((i & 4) != 0 ? "" : "not ").append("c;");
            }
            LotBeliefs x = Edges.with(jar.toString());
            Edges.row(x::ends, 7, 0, 0);
            for (int slip = 0; slip < 7; slip++) {
                Edges.due(x.orders(slip), 720);
            }
        });
        Edges.of("24 how many ORDERS hold a SLIP in the END", () -> {
            LotBeliefs x = Edges.with("slip a;slip not a;slip not a;slip b and not b;slip c;law 1;");
            Edges.row(x::orders, 40, 80, 80, 0, 120);
            x.law(0);
            Edges.row(x::orders, 0, 60, 60, 0, 120);
        });
        Edges.of("23, 24 whatever the ORDER now", () -> {
            LotBeliefs x = Edges.with(FOUR);
            x.order(0x3210);
            Edges.row(x::ends, 3, 8, 2);
            Edges.row(x::at, 3, 2, 1, 0);
        });
    }

    private static void freshEnds() {
        Edges.of("23 by the LAW, the TONGUE, the world that IS as they are now", () -> {
            LotBeliefs x = Edges.with("atoms 1;slip a;slip not a;");
            Edges.row(x::ends, 1, 0, 3);
            x.law(1);
            Edges.row(x::ends, 2, 0, 0);
            x.law(4);
            Edges.row(x::ends, 1, 0, 3);
            Feeder.tongue(x, "new 1=1;");
            Edges.row(x::ends, 2, 0, 0);
            Feeder.tongue(x, "new hurts=0;old hurts>0;");
            Edges.row(x::ends, 1, 2, 1);
            x.world(1);
            Edges.row(x::ends, 1, 1, 2);
            Edges.row(x::orders, 2, 0);
            Feeder.tongue(x, "old ?");
            Edges.row(x::ends, 1, 1, 2);
            Feeder.tongue(x, "");
            Edges.row(x::ends, 1, 0, 3);
        });
        Edges.of("23 behind an IMAGE that is restored", () -> {
            LotBeliefs x = Edges.with("atoms 1;slip a;slip not a;law 4;", "new hurts=0;old hurts>0;");
            x.image();
            x.world(1);
            Edges.row(x::ends, 1, 1, 2);
            x.restore();
            Edges.row(x::ends, 1, 2, 1);
        });
        Edges.of("23 behind another JAR, and behind one that is not read", () -> {
            LotBeliefs x = Edges.with("atoms 1;slip a;slip not a;law 1;");
            Edges.row(x::ends, 2, 0, 0);
            Feeder.jar(x, "slip a;law 9;");
            Edges.row(x::ends, 2, 0, 0);
            Feeder.jar(x, "slip a;");
            Edges.row(x::ends, 1, 1, 0);
            for (int law = 0; law < 5; law++) {
                Feeder.jar(x, "slip a;slip b;law " + law + ";");
                Edges.row(x::ends, 1, 3, 0);
                Feeder.jar(x, "slip c and not c;law " + law + ";");
                Edges.row(x::ends, 1, 0, 1);
            }
        });
    }

    private static void best() {
        Edges.of("T BEST: most so in the world that IS, of these the first (SLIP by SLIP)", () -> {
            LotBeliefs x = Edges.with("slip not a;slip a;slip b;slip a;law 1;world 3;");
            Edges.due(x.best(), 3);
            Edges.row(x::at, 1, 0, 2, 3, NONE);
            LotBeliefs y = Edges.with(SEVEN);
            y.order(0x6543210L);
            Edges.due(y.best(), 0);
            Edges.row(y::at, 0, 1, 2, 3, 4, 5, 6, NONE);
        });
        Edges.of("T BEST: two ENDS with as many: the first ORDER, whichever END", () -> {
            bestIs("slip a;slip not a and b;law 1;", 0, 0, 1);
            bestIs("slip a;slip not a and b;law 2;", 0, 0, 1);
            bestIs("slip a;slip not a;slip c and not c;see 2 a;law 0;", 0, 0, 1, 2);
            bestIs("slip a;slip not a;slip b;law 1;world 2;", 2, 1, 0, 2);
            bestIs("slip a;slip not a;slip b;law 2;world 2;", 2, 0, 1, 2);
        });
        Edges.of("T BEST: more is better than sooner", () -> {
            bestIs("slip a;slip not a;law 2;world 1;", 1, 1, 0);
            bestIs("slip a;slip not a;law 2;world 0;", 1, 0, 1);
            bestIs("slip a;slip not a;law 1;world 0;", 1, 1, 0);
            bestIs("slip b and not a;slip a;slip not a;slip a;law 1;world 1;", 2, 1, 0, 2, 3);
        });
        Edges.of("25 BEST becomes the ORDER: how many are so", () -> {
            LotBeliefs x = Edges.with(FOUR);
            Edges.due(x.best(), 3);
            Edges.row(x::at, 0, 2, 1, 3);
            Edges.due(x.year(4), 3);
            Edges.due(x.best(), 3);
            Edges.row(x::at, 0, 2, 1, 3);
        });
        Edges.of("25 the last ORDER of all can be BEST", () -> {
            LotBeliefs x = Edges.with("slip not a;slip a;law 1;world 1;");
            Edges.due(x.best(), 1);
            Edges.row(x::at, 1, 0);
        });
        Edges.of("25 none is so: the first ORDER", () -> {
            LotBeliefs x = Edges.with("slip a;slip not a and b;slip b and not b;world 0;");
            x.order(0x210);
            Edges.due(x.best(), 0);
            Edges.row(x::at, 0, 1, 2);
        });
        Edges.of("25 by the LAW and the world that IS as they are now", () -> {
            LotBeliefs x = Edges.with("atoms 1;slip a;slip not a;law 1;world 1;");
            Edges.due(x.best(), 1);
            Edges.row(x::at, 0, 1);
            x.world(0);
            Edges.due(x.best(), 1);
            Edges.row(x::at, 1, 0);
            x.law(0);
            Edges.due(x.best(), 0);
            Edges.row(x::at, 0, 1);
        });
    }

    private static void bestIs(String jar, int so, long... order) {
        LotBeliefs x = Edges.with(jar);
        Edges.due(x.best(), so);
        Edges.row(x::at, order);
        Edges.due(x.year(4), so);
    }

    private static void compared() {
        Edges.of("T COMPARED: over all ORDERS together, by each LAW", () -> {
            LotBeliefs x = Edges.with("slip a;slip not a;slip a and b;world 3;");
            Edges.row(x::compared, 6, 8, 6, 5, 6);
            LotBeliefs y = Edges.with("slip a;slip not a;slip b;world 1;");
            Edges.row(y::compared, 0, 3, 3, 3, 0);
            y.world(2);
            Edges.row(y::compared, 6, 9, 9, 9, 6);
        });
        Edges.of("34 the LAW and the ORDER stay", () -> {
            LotBeliefs x = Edges.with("slip a;slip not a;law 2;world 1;");
            x.order(0x10);
            for (int law = 0; law < 5; law++) {
                x.compared(law);
                Edges.due(x.told(5), 2);
                Edges.row(x::at, 1, 0);
            }
        });
        Edges.of("34 by LAW 4: as the TONGUE tells", () -> {
            LotBeliefs x = Edges.with("slip a;slip not a;world 1;", "old oldn=1;new newn=1;");
            Edges.due(x.compared(4), 2);
            Feeder.tongue(x, "old oldn=0;new newn=0;");
            Edges.due(x.compared(4), 0);
        });
    }

    private static void worst() {
        Edges.of("T WORST: most hurts in its YEAR, of these the first", () -> {
            LotBeliefs x = Edges.with("slip a;slip b;slip c;world 2;");
            Edges.row(x::worst, 52 + 51, 0x021);
            x.world(0);
            Edges.row(x::worst, 52 + 51 + 50, 0x012);
            x.world(7);
            Edges.row(x::worst, 0, 0x012);
            x.world(5);
            Edges.row(x::worst, 52, 0x102);
        });
        Edges.of("T WORST: a SLIP that falls by one ORDER and stays by the next", () -> {
            LotBeliefs x = Edges.with("slip a;slip not a;slip b;see 2 a;law 0;");
            Edges.row(x::worst, 52 + 51, 0x021);
            LotBeliefs y = Edges.with("slip a;slip b;slip not b;see 3 b;slip c;world 0;law 0;");
            Edges.row(y::worst, 52 + 51 + 50, 0x0132);
        });
        Edges.of("45 the hurts; as digits to the base 16", () -> {
            LotBeliefs x = Edges.with("slip a;".repeat(6) + "slip b;world 1;");
            Edges.row(x::worst, 52, 0x6012345L);
            LotBeliefs y = Edges.with("slip b;".repeat(6) + "slip a;world 1;");
            Edges.row(y::worst, 52 + 51 + 50 + 49 + 48 + 47, 0x0123456L);
        });
        Edges.of("45 the ORDER stays", () -> {
            LotBeliefs x = Edges.with("slip a;slip b;world 1;");
            Edges.row(x::worst, 52, 0x10);
            Edges.row(x::at, 0, 1);
        });
        Edges.of("45 by the LAW as it is now", () -> {
            LotBeliefs x = Edges.with("slip a;slip not a;world 1;");
            Edges.row(x::worst, 1, 0x10);
            x.law(1);
            Edges.row(x::worst, 52, 0x10);
            x.law(2);
            Edges.row(x::worst, 51, 0x01);
        });
    }

    // ---- salts ----

    private static void salted() {
        Edges.of("T SALTED: the fewest, of these the least bits", () -> {
            String pair = "slip a;slip not a;law 1;";
            LotBeliefs x = Edges.with(pair + "salt b;salt not a and b;salt not a;salt not a;");
            Edges.due(x.salted(0), 0);
            Edges.due(x.salted(1), 0);
            Edges.due(x.salted(2), 2);
            LotBeliefs y = Edges.with(pair + "salt b;salt c;salt d;see 2 not a;");
            Edges.due(y.salted(2), 1);
            LotBeliefs z = Edges.with(pair + "salt b;salt c;salt d;see 3 not a;");
            Edges.due(z.salted(2), 3);
            LotBeliefs one = Edges.with(pair + "salt b;salt c;salt not a;see 3 not a;");
            Edges.due(one.salty(3), 2);
            Edges.due(one.salted(2), 4);
            LotBeliefs last = Edges.with(pair + "salt b;salt b;salt b;salt b;salt not a;");
            Edges.due(last.salted(2), 16);
        });
        Edges.of("T SALTED: all five", () -> {
            LotBeliefs x = Edges.with("slip a;slip not a;" + "salt b;".repeat(5) + "see 6 not a;law 1;");
            Edges.due(x.salted(2), 31);
            Edges.due(x.salted(1), NONE);
        });
        Edges.of("32 NONE: no set does", () -> {
            Edges.due(Edges.with("slip a;slip not a;law 1;").salted(3), NONE);
            Edges.due(Edges.with("slip a;see 51 not a;salt a;").salted(1), NONE);
            Edges.due(Edges.with("slip a;see 51 not a;salt a;").salted(0), 0);
        });
        Edges.of("T SALTED: told SLIPS are held, others may be", () -> {
            LotBeliefs x = Edges.with("slip a;slip b;slip not a;law 1;");
            Edges.due(x.salted(1), 0);
            Edges.due(x.salted(2), 0);
            Edges.due(x.salted(3), 0);
            Edges.due(x.salted(4), NONE);
            Edges.due(x.salted(6), NONE);
        });
        Edges.of("T SALTED: drawn ahead of the ORDER as it is", () -> {
            LotBeliefs x = Edges.with("slip a;slip not a;salt not a;law 1;");
            Edges.due(x.salted(2), 1);
            x.order(0x10);
            Edges.due(x.salted(2), 0);
            Edges.row(x::at, 1, 0);
        });
        Edges.of("32 IllegalArgumentException: bits of no SLIPS", () -> {
            for (int slips = 0; slips <= 12; slips++) {
                LotBeliefs x = Edges.with("slip a;".repeat(slips) + "salt a;salt b;");
                Edges.between(x, 0, (1 << slips) - 1, x::salted);
                Edges.due(x.salted((1 << slips) - 1), 0);
            }
        });
    }

    private static void salty() {
        Edges.of("33 HELD at the end (bits of SLIPS)", () -> {
            LotBeliefs x = Edges.with("slip a;slip not a;salt b;salt not a;salt a and b;law 1;");
            Edges.row(x::salty, 1, 1, 2, 2, 1, 1, 2, 2);
            LotBeliefs full = Edges.with("slip a;".repeat(12) + "salt b;".repeat(5));
            Edges.due(full.salty(31), 4095);
        });
        Edges.of("33 IllegalArgumentException: bits of no SALTS", () -> {
            for (int salts = 0; salts <= 5; salts++) {
                LotBeliefs x = Edges.with("salt a;".repeat(salts) + "slip a;slip b;");
                Edges.between(x, 0, (1 << salts) - 1, x::salty);
            }
        });
        Edges.of("T SALTS are drawn ahead of all SLIPS, a Monday each", () -> {
            LotBeliefs x = Edges.with("slip a;slip not a;" + "salt b;".repeat(5) + "see 4 not a;see 6 b;law 1;");
            Edges.due(x.salty(0), 0);
            Edges.due(x.salty(3), 0);
            Edges.due(x.salty(7), 2);
            Edges.due(x.salty(31), 2);
            LotBeliefs y = Edges.with("slip a;".repeat(11) + "slip b;" + "salt c;".repeat(5) + "see 16 not b;see 16 a;law 1;");
            Edges.due(y.salty(0), 2047);
            Edges.due(y.salty(31), 2047);
        });
        Edges.of("T SALTS by number: the first ahead of the second", () -> {
            LotBeliefs x = Edges.with("slip a;salt a;salt not a;salt a;law 1;");
            Edges.row(x::salty, 1, 1, 0, 1, 1, 1, 0, 1);
            x.law(2);
            Edges.row(x::salty, 1, 1, 1, 1, 1, 1, 1, 1);
            x.law(0);
            Edges.row(x::salty, 1, 1, 0, 1, 1, 1, 1, 1);
        });
        Edges.of("T SALTS may be KILLED, at once and later", () -> {
            LotBeliefs x = Edges.with("slip not a;salt a;see 0 not a;law 1;");
            Edges.due(x.salty(1), 1);
            LotBeliefs y = Edges.with("slip not a;salt a;see 1 not a;law 1;");
            Edges.due(y.salty(1), 1);
            LotBeliefs z = Edges.with("slip not a;salt a;see 2 not a;law 1;");
            Edges.due(z.salty(1), 0);
        });
        Edges.of("33 by the ORDER, the LAW as they are now; both stay, and the YEAR has no SALTS", () -> {
            LotBeliefs x = Edges.with("slip a;slip not a;salt c;law 1;");
            x.order(0x10);
            Edges.due(x.salty(1), 2);
            x.law(2);
            Edges.due(x.salty(1), 1);
            Edges.row(x::at, 1, 0);
            Edges.due(x.fate(1, 0), 0);
        });
    }

    // ---- orders drawn ----

    private static long digits(int[] row) {
        long order = 0;
        for (int slip : row) {
            order = order * 16 + slip;
        }
        return order;
    }

    private static final int[] SEEDS = {0, 1, 2, 5, 77, 99, 12345, -1, -2, 1 << 16, 1 << 30, Integer.MAX_VALUE,
        Integer.MAX_VALUE - 1, Integer.MIN_VALUE, Integer.MIN_VALUE + 1};

    private static void draw() {
        Edges.of("T ORDERS drawn, of no SLIP to twelve", () -> {
            for (int slips = 0; slips <= 12; slips++) {
                LotBeliefs x = Edges.with("slip a;".repeat(slips));
                for (int seed : new int[] {0, 1, -1, Integer.MAX_VALUE, Integer.MIN_VALUE}) {
                    int[] lot = Edges.lot(slips, seed);
                    for (int i = 0; i < slips; i++) {
                        Edges.due(x.draw(seed, i), lot[i]);
                    }
                }
            }
        });
        Edges.of("T ORDERS drawn: the SEED has 32 bits, and wraps", () -> {
            LotBeliefs x = Edges.with("slip a;".repeat(12));
            for (int seed : SEEDS) {
                int[] lot = Edges.lot(12, seed);
                Edges.row(i -> x.draw(seed, i), lot[0], lot[1], lot[2], lot[3], lot[4], lot[5], lot[6], lot[7], lot[8],
                        lot[9], lot[10], lot[11]);
            }
        });
        Edges.of("T ORDERS drawn by SEED 0, reckoned by hand", () -> {
            // 12,345: bits 16 to 30 are 0: place 2 changes with 0, whatever comes behind
            LotBeliefs two = Edges.with("slip a;slip b;");
            Edges.row(i -> two.draw(0, i), 1, 0);
            // -1: 12,345 less 1,103,515,245 is 3,191,464,396 (32 bits); its bits 16 to 30 are 15,929: odd
            Edges.row(i -> two.draw(-1, i), 0, 1);
        });
        Edges.of("36 NONE: none such", () -> {
            for (int slips = 0; slips <= 12; slips++) {
                LotBeliefs x = Edges.with("slip a;".repeat(slips));
                for (int i : new int[] {-1, slips, slips + 1, 99, Integer.MIN_VALUE, Integer.MAX_VALUE}) {
                    Edges.due(x.draw(7, i), NONE);
                }
                Edges.row(x::status, 0, 0, 0);
            }
        });
        Edges.of("36 the ORDER stays, and does not matter", () -> {
            LotBeliefs x = Edges.with("slip a;slip b;slip c;slip d;");
            x.order(0x3210);
            int[] lot = Edges.lot(4, 5);
            Edges.row(i -> x.draw(5, i), lot[0], lot[1], lot[2], lot[3]);
            Edges.row(x::at, 3, 2, 1, 0);
        });
    }

    private static void drawn() {
        String jar = "slip a;slip not a;slip b;slip not b;slip a and b;slip not a or not b;world 3;";
        Edges.of("T COMPARED over so many SEEDS: seed, seed and 1, ..", () -> {
            for (int law = 0; law < 4; law++) {
                LotBeliefs x = Edges.with(jar);
                int sum = 0;
                for (int many = 1; many <= 60; many++) {
                    LotBeliefs y = Edges.with(jar + "law " + law + ";");
                    y.order(digits(Edges.lot(6, 500 + many)));
                    sum += y.year(4);
                    Edges.due(x.drawn(law, 501, many), sum);
                }
            }
        });
        Edges.of("T COMPARED over SEEDS that wrap", () -> {
            LotBeliefs x = Edges.with(jar);
            for (int law = 0; law < 4; law++) {
                int sum = 0;
                for (int i = 0; i < 60; i++) {
                    sum += x.drawn(law, Integer.MAX_VALUE - 9 + i, 1);
                }
                Edges.due(x.drawn(law, Integer.MAX_VALUE - 9, 60), sum);
            }
        });
        Edges.of("35 IllegalArgumentException: 1 to 60 SEEDS, a LAW", () -> {
            LotBeliefs x = Edges.with(jar);
            Edges.between(x, 1, 60, many -> x.drawn(0, 9, many));
            Edges.between(x, 0, 4, law -> x.drawn(law, 9, 1));
        });
        Edges.of("35 more than 7 SLIPS may be", () -> {
            LotBeliefs x = Edges.with("slip a;".repeat(12) + "world 1;");
            Edges.due(x.drawn(0, 1, 60), 720);
            x.world(0);
            Edges.due(x.drawn(0, 1, 60), 0);
        });
        Edges.of("35 the LAW and the ORDER stay", () -> {
            LotBeliefs x = Edges.with(jar + "law 3;");
            x.order(0x543210L);
            x.drawn(1, 1, 60);
            Edges.due(x.told(5), 3);
            Edges.row(x::at, 5, 4, 3, 2, 1, 0);
        });
    }

    private static void century() {
        String jar = "slip a;slip not a;slip b;slip not b;slip a and b;slip not a or not b;law 1;";
        Edges.of("T CENTURY: in how many of so many ORDERS drawn a SLIP is held", () -> {
            LotBeliefs x = Edges.with(jar);
            int[] sums = new int[6];
            for (int many = 1; many <= 60; many++) {
                LotBeliefs y = Edges.with(jar);
                y.order(digits(Edges.lot(6, many - 31)));
                for (int slip = 0; slip < 6; slip++) {
                    sums[slip] += y.year(0) >> slip & 1;
                    Edges.due(x.century(slip, -30, many), sums[slip]);
                }
            }
        });
        Edges.of("T CENTURY over SEEDS that wrap", () -> {
            LotBeliefs x = Edges.with(jar);
            int sum = 0;
            for (int i = 0; i < 60; i++) {
                sum += x.century(0, Integer.MAX_VALUE - 9 + i, 1);
            }
            Edges.due(x.century(0, Integer.MAX_VALUE - 9, 60), sum);
        });
        Edges.of("46 IndexOutOfBoundsException ahead of others; 1 to 60", () -> {
            LotBeliefs x = Edges.with(jar);
            Edges.numbered(x, 6, slip -> x.century(slip, 0, 1));
            Edges.numbered(x, 6, slip -> x.century(slip, 0, 0));
            Edges.numbered(x, 6, slip -> x.century(slip, 0, 61));
            Edges.between(x, 1, 60, many -> x.century(5, 0, many));
        });
        Edges.of("46 by the LAW as it is now; always and never", () -> {
            Edges.due(Edges.with("slip a;".repeat(12)).century(11, 3, 60), 60);
            Edges.due(Edges.with("slip a and not a;").century(0, 3, 60), 0);
            LotBeliefs y = Edges.with("slip a;slip not a;");
            Edges.due(y.century(0, 3, 60), 0);
            y.law(1);
            Edges.due(y.century(0, 3, 60) + y.century(1, 3, 60), 60);
        });
    }

    // ---- two schools ----

    private static void school() {
        Edges.of("T TWO SCHOOLS: the 1st, 3rd, .. by the first, others by the second, the i-th in WEEK i", () -> {
            LotBeliefs x = Edges.with("slip a;".repeat(12));
            int first = 0;
            int second = 0;
            for (int week = 0; week < 52; week++) {
                first |= week < 12 && week % 2 == 0 ? 1 << week : 0;
                second |= week < 12 && week % 2 == 1 ? 1 << week : 0;
                Edges.due(x.school(0, week), first);
                Edges.due(x.school(1, week), second);
            }
        });
        Edges.of("T TWO SCHOOLS: by the ORDER", () -> {
            LotBeliefs x = Edges.with("slip a;slip b;slip c;");
            x.order(0x120);
            Edges.due(x.school(0, 51), 3);
            Edges.due(x.school(1, 51), 4);
            Edges.due(x.school(0, 0), 2);
        });
        Edges.of("T TWO SCHOOLS: each by the LAW for itself", () -> {
            LotBeliefs x = Edges.with("slip a;slip not a;slip not a;slip a;law 1;");
            Edges.due(x.school(0, 51), 1);
            Edges.due(x.school(1, 51), 2);
            x.law(2);
            Edges.due(x.school(0, 51), 4);
            Edges.due(x.school(1, 51), 8);
            x.law(0);
            Edges.due(x.school(0, 51), 0);
            Edges.due(x.school(0, 1), 1);
            Edges.due(x.school(1, 51), 0);
        });
        Edges.of("T TWO SCHOOLS: both see what is seen", () -> {
            LotBeliefs x = Edges.with("slip a;slip a;see 51 not a;");
            Edges.due(x.school(0, 50), 1);
            Edges.due(x.school(1, 50), 2);
            Edges.due(x.school(0, 51), 0);
            Edges.due(x.school(1, 51), 0);
        });
        Edges.of("37 IllegalArgumentException: school 0, 1; WEEK", () -> {
            LotBeliefs x = Edges.with(FOUR);
            Edges.between(x, 0, 1, school -> x.school(school, 0));
            Edges.between(x, 0, 51, week -> x.school(1, week));
        });
        Edges.of("37 one SLIP: the second has nothing", () -> {
            LotBeliefs x = Edges.with("slip a;");
            Edges.due(x.school(0, 0), 1);
            Edges.due(x.school(1, 51), 0);
        });
    }

    private static void right() {
        Edges.of("T RIGHT: what it holds and all that is LEFT leave but the world that IS", () -> {
            LotBeliefs x = Edges.with("atoms 2;slip a;slip not a;slip b;slip not b;world 3;");
            Edges.row(x::right, 2, NONE);
            x.world(0);
            Edges.row(x::right, NONE, 3);
            x.world(1);
            Edges.row(x::right, NONE, NONE);
        });
        Edges.of("38 the first WEEK: 0, 51, behind (c)", () -> {
            Edges.row(Edges.with("atoms 1;slip a;world 1;")::right, 0, NONE);
            Edges.row(Edges.with("atoms 1;see 0 a;world 1;")::right, 0, 0);
            Edges.row(Edges.with("atoms 1;see 51 a;world 1;")::right, 51, 51);
            Edges.row(Edges.with("atoms 1;slip not a;see 0 a;world 1;")::right, 0, 0);
        });
        Edges.of("38 RIGHT for a while only", () -> {
            LotBeliefs x = Edges.with("atoms 1;slip a;slip a;see 3 not a;world 1;");
            Edges.row(x::right, 0, 1);
            x.world(0);
            Edges.row(x::right, 3, 3);
        });
        Edges.of("38 NONE: the world that IS is not LEFT, or no WORLD is", () -> {
            Edges.row(Edges.with("atoms 1;see 0 a;")::right, NONE, NONE);
            Edges.row(Edges.with("atoms 1;see 0 a;see 0 not a;")::right, NONE, NONE);
        });
        Edges.of("38 WORLD 63", () -> {
            LotBeliefs x = Edges.with("atoms 6;slip a and b and c;slip a;slip d and e and f;world 63;");
            Edges.row(x::right, 2, NONE);
        });
        Edges.of("38 IllegalArgumentException: another school", () -> {
            LotBeliefs x = Edges.with(FOUR);
            Edges.between(x, 0, 1, x::right);
        });
    }

    private static void war() {
        Edges.of("T WAR: what both hold together is so in no WORLD that is LEFT", () -> {
            Edges.row(Edges.with("slip a;slip not a;")::war, 51, 1);
            Edges.row(Edges.with("slip a;slip b;")::war, 0, NONE);
            Edges.row(Edges.with("slip a;slip b;slip not a;slip c;law 1;")::war, 0, NONE);
            Edges.row(Edges.with("slip a;slip b;see 51 not a or not b;")::war, 1, 51);
        });
        Edges.of("T WAR: it ends, and begins again", () -> {
            LotBeliefs x = Edges.with("slip a;slip not a;see 9 a;");
            Edges.row(x::war, 8, 1);
            LotBeliefs y = Edges.with("slip a;slip not a;see 9 a;see 40 not a;");
            Edges.row(y::war, 8 + 12, 1);
        });
        Edges.of("T WAR: (each by itself may be)", () -> {
            LotBeliefs x = Edges.with("slip a or b;slip c;slip not a;slip c;slip not b;law 1;");
            Edges.row(x::war, 48, 4);
        });
        Edges.of("T WAR: no WORLD is LEFT", () -> {
            Edges.row(Edges.with("see 0 a;see 0 not a;")::war, 52, 0);
            Edges.row(Edges.with("see 50 a;see 51 not a;")::war, 1, 51);
        });
        Edges.of("50 what 0, 1", () -> {
            LotBeliefs x = Edges.with(FOUR);
            Edges.between(x, 0, 1, x::war);
        });
    }
}
