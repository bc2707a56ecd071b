/** The edges of ORDER, LAW, world and YEAR (promises 15 to 22, 39, 42, 51 to 54). */
public final class YearEdgeTest {
    private static final int NONE = Edges.NONE;
    private static final String FOUR = "atoms 2;slip a;slip not a;slip a and b;slip a or b;see 2 a;world 3;";
    private static final String TWELVE = "slip a;".repeat(12);

    public static void main(String[] args) {
        order();
        lawAndWorld();
        monday();
        meetings();
        laws();
        weeks();
        held();
        fate();
        year();
        touchy();
        killer();
        eldest();
        graves();
        canon();
        swap();
        humble();
        Edges.done();
    }

    // ---- promises 15 to 18 ----

    private static void order() {
        Edges.of("T an ORDER: by number at first", () -> {
            LotBeliefs x = Edges.with(TWELVE);
            Edges.row(x::at, 0, 1, 2, 3, 4, 5, 6, 7, 8, 9, 10, 11, NONE);
        });
        Edges.of("15 digits to the base 16 (the first the highest)", () -> {
            LotBeliefs x = Edges.with(TWELVE);
            Edges.due(x.order(0xBA9876543210L), 1);
            Edges.row(x::at, 11, 10, 9, 8, 7, 6, 5, 4, 3, 2, 1, 0);
            Edges.due(x.order(0x0123456789ABL), 1);
            Edges.row(x::at, 0, 1, 2, 3, 4, 5, 6, 7, 8, 9, 10, 11);
            Edges.due(x.order(0x1032547698BAL), 1);
            Edges.row(x::at, 1, 0, 3, 2, 5, 4, 7, 6, 9, 8, 11, 10);
        });
        Edges.of("15 0: a SLIP is none (it stays)", () -> {
            stays(FOUR, 0x3214L, 0x4210L, 0xF210L, 0x321FL, 0x3240L);
            stays(TWELVE, 0xCA9876543210L, 0xBA987654321CL, 0xBA9876F43210L);
        });
        Edges.of("15 0: a SLIP is twice (it stays)", () -> {
            stays(FOUR, 0x3211L, 0x3310L, 0x3213L, 0x0120L, 0x0000L, 0x3333L);
            stays(TWELVE, 0xBA9876543211L, 0xBA987654321BL, 0L);
        });
        Edges.of("15 0: a SLIP lacks (it stays)", () -> {
            stays(FOUR, 0x210L, 0x32L, 0x21L, 0x1L, 0L);
            stays(TWELVE, 0xBA98765432L, 0x123456789AL, 1L);
        });
        Edges.of("15 the SLIP that lacks ahead is 0", () -> {
            LotBeliefs x = Edges.with(FOUR);
            Edges.due(x.order(0x321L), 1);
            Edges.row(x::at, 0, 3, 2, 1);
            LotBeliefs y = Edges.with(TWELVE);
            Edges.due(y.order(0xBA987654321L), 1);
            Edges.row(y::at, 0, 11, 10, 9, 8, 7, 6, 5, 4, 3, 2, 1);
        });
        Edges.of("15 0: one SLIP more (it stays)", () -> {
            stays(FOUR, 0x13210L, 0x10123L, 0x1000000003210L, 0x8000000000003210L, 0xFFFFFFFFFFFF3210L);
            stays(FOUR, -1L, Long.MIN_VALUE, Long.MAX_VALUE);
            stays(TWELVE, 0x1BA9876543210L, 0x8000BA9876543210L, -1L);
        });
        Edges.of("15 one SLIP, or none", () -> {
            LotBeliefs one = Edges.with("slip a;");
            Edges.due(one.order(0), 1);
            Edges.due(one.order(1), 0);
            Edges.due(one.order(16), 0);
            LotBeliefs none = new LotBeliefs();
            Edges.due(none.order(0), 1);
            Edges.due(none.order(1), 0);
            Edges.due(none.order(Long.MIN_VALUE), 0);
            Edges.due(none.at(0), NONE);
        });
        Edges.of("16 the i-th of the ORDER; NONE: none such", () -> {
            for (int slips = 0; slips <= 12; slips++) {
                LotBeliefs x = Edges.with("slip a;".repeat(slips));
                for (int i : new int[] {-1, slips, slips + 1, 12, 13, Integer.MIN_VALUE, Integer.MAX_VALUE}) {
                    Edges.due(x.at(i), i >= 0 && i < slips ? i : NONE);
                }
            }
        });
    }

    /** Each of these is refused by 0, and the ORDER stays: the first two have changed places. */
    private static void stays(String jar, long... wrong) {
        LotBeliefs x = Edges.with(jar);
        int slips = x.told(1);
        Edges.due(x.order(slips == 4 ? 0x1023L : 0x1023456789ABL), 1);
        for (long order : wrong) {
            Edges.due(x.order(order), 0);
            for (int i = 0; i < slips; i++) {
                Edges.due(x.at(i), i < 2 ? 1 - i : i);
            }
        }
        Edges.row(x::status, 0, 0, 0);
    }

    private static void lawAndWorld() {
        Edges.of("17 another LAW (0 to 4): what it was", () -> {
            LotBeliefs x = Edges.with("law 2;");
            int was = 2;
            for (int law : new int[] {0, 1, 2, 3, 4, 4, 0}) {
                Edges.due(x.law(law), was);
                Edges.due(x.told(5), law);
                was = law;
            }
            Edges.between(x, 0, 4, x::law);
            Edges.due(x.told(5), 4);
        });
        Edges.of("18 the world that IS another one: what it was; IllegalArgumentException: no such WORLD", () -> {
            for (int atoms = 1; atoms <= 6; atoms++) {
                LotBeliefs x = Edges.with("atoms " + atoms + ";world 1;");
                Edges.due(x.world(0), 1);
                Edges.due(x.world((1 << atoms) - 1), 0);
                Edges.between(x, 0, (1 << atoms) - 1, x::world);
                Edges.due(x.told(4), (1 << atoms) - 1);
            }
            LotBeliefs y = new LotBeliefs();
            Edges.between(y, 0, 15, y::world);
        });
        Edges.of("18 a WORLD that is not LEFT may be", () -> {
            LotBeliefs x = Edges.with("slip a;see 0 a;world 1;");
            Edges.due(x.world(0), 1);
            Edges.due(x.fate(0, 4), 52);
        });
    }

    // ---- a Monday ----

    private static void monday() {
        Edges.of("T the i-th is drawn on the Monday of WEEK i", () -> {
            LotBeliefs x = Edges.with(TWELVE);
            x.order(0xBA9876543210L);
            for (int i = 0; i < 12; i++) {
                Edges.due(x.fate(i, 0), 11 - i);
                Edges.due(x.fate(i, 3), 52 - (11 - i));
                Edges.due(x.held(i), 4096 - (1 << 11 - i));
            }
        });
        Edges.of("T (a) comes ahead of (b): who is KILLED on a Monday meets none", () -> {
            LotBeliefs x = Edges.with("slip a;slip not a;see 1 not a;law 1;");
            Edges.row(what -> x.fate(0, what), 0, 1, NONE, 1, 1);
            Edges.row(what -> x.fate(1, what), 1, NONE, NONE, 51, 0);
            Edges.row(x::year, 2, 0, 1, 1, 1, 1);
        });
        Edges.of("T (b) so in no WORLD that is LEFT: KILLED at once, and meets none", () -> {
            LotBeliefs x = Edges.with("slip a;slip not a;see 1 a;law 2;");
            Edges.row(what -> x.fate(1, what), 1, 1, NONE, 0, 0);
            Edges.row(what -> x.fate(0, what), 0, NONE, NONE, 52, 52);
            Edges.row(x::year, 1, 0, 1, 52, 0, 1);
            Edges.due(x.held(1), 1);
        });
        Edges.of("T (b) so in a WORLD that is LEFT at the draw, in none a WEEK later", () -> {
            LotBeliefs x = Edges.with("slip a;see 1 not a;");
            Edges.row(what -> x.fate(0, what), 0, 1, NONE, 1, 1);
            Edges.due(x.held(0), 1);
            Edges.due(x.held(1), 0);
        });
        Edges.of("T (c) held behind (a) and (b): not in the WEEK in which it is KILLED or falls", () -> {
            LotBeliefs x = Edges.with("slip a;slip not a;world 2;");
            Edges.row(what -> x.fate(0, what), 0, 1, 1, 1, 1);
            Edges.row(what -> x.fate(1, what), 1, 1, 0, 0, 0);
        });
        Edges.of("T (c) each that is not so in the world that IS hurts once a WEEK", () -> {
            LotBeliefs x = Edges.with("slip a;slip b;slip not a;see 9 not b;law 1;world 0;");
            Edges.row(slip -> x.fate(slip, 4), 52, 8, 0);
            Edges.due(x.year(3), 60);
            x.world(1);
            Edges.row(slip -> x.fate(slip, 4), 0, 8, 0);
            x.world(3);
            Edges.due(x.year(3), 0);
        });
    }

    private static void meetings() {
        Edges.of("T it meets those held, the eldest first", () -> {
            LotBeliefs x = Edges.with("slip a;slip b;slip not a and not b;law 1;");
            Edges.due(x.fate(2, 2), 0);
            x.order(0x102);
            Edges.due(x.fate(2, 2), 1);
            x.law(0);
            Edges.due(x.held(2), 1);
            x.order(0x012);
            Edges.due(x.held(2), 2);
        });
        Edges.of("T those with a WORLD that is LEFT in common do not FALL OUT", () -> {
            LotBeliefs x = Edges.with("slip a;slip b;see 2 not a or not b;law 1;");
            Edges.row(x::year, 3, 0, 0, 52 + 51, 0, 0);
            LotBeliefs y = Edges.with("slip a;slip b;see 1 not a or not b;law 1;");
            Edges.row(y::year, 1, 1, 0, 52, 0, 1);
        });
        Edges.of("T if the new one has fallen, it meets no more", () -> {
            LotBeliefs x = Edges.with("slip a;slip b;slip not a and not b;law 0;");
            Edges.due(x.held(2), 2);
            Edges.row(slip -> x.fate(slip, 2), 2, NONE, 0);
        });
        Edges.of("T else it is HELD, as the youngest", () -> {
            LotBeliefs x = Edges.with("slip a;slip b;slip c;slip not a and not b or not c;law 2;see 3 not a or not b;");
            Edges.due(x.eldest(2), 0);
            LotBeliefs y = Edges.with("slip a;slip not a and b;slip not b;slip not a and not c;law 2;");
            Edges.due(y.held(2), 4);
            Edges.due(y.eldest(3), 2);
            Edges.due(y.held(3), 12);
        });
        Edges.of("T who is not held is not met", () -> {
            LotBeliefs x = Edges.with("slip a;slip not a;slip a and b;law 0;");
            Edges.due(x.held(2), 4);
            LotBeliefs y = Edges.with("slip a;slip not a;slip not a;law 1;");
            Edges.row(slip -> y.fate(slip, 2), NONE, 0, 0);
        });
    }

    private static void laws() {
        String pair = "slip a;slip not a;";
        Edges.of("T LAW 0: both fall", () -> {
            LotBeliefs x = Edges.with(pair + "law 0;");
            Edges.row(x::year, 0, 2, 0, 1, 0, 1);
            Edges.row(slip -> x.fate(slip, 2), 1, 0);
        });
        Edges.of("T LAW 1: the new one", () -> {
            LotBeliefs x = Edges.with(pair + "law 1;");
            Edges.row(x::year, 1, 1, 0, 52, 0, 1);
            Edges.row(slip -> x.fate(slip, 2), NONE, 0);
        });
        Edges.of("T LAW 2: the old one; the new one meets the next", () -> {
            LotBeliefs x = Edges.with(pair + "law 2;");
            Edges.row(x::year, 2, 1, 0, 1, 1, 1);
            Edges.row(slip -> x.fate(slip, 2), 1, NONE);
            LotBeliefs y = Edges.with("slip a;slip b;slip not a and not b;law 2;");
            Edges.due(y.year(0), 4);
            Edges.row(slip -> y.fate(slip, 2), 2, 2, NONE);
        });
        Edges.of("T LAW 3: that with fewer MODELS", () -> {
            Edges.due(Edges.with("slip a and b;slip not a;law 3;").year(0), 2);
            Edges.due(Edges.with("slip a;slip not a and b;law 3;").year(0), 1);
            LotBeliefs x = Edges.with("slip a and b;slip a;slip not a;law 3;");
            Edges.row(slip -> x.fate(slip, 2), 2, NONE, 1);
            Edges.row(slip -> x.fate(slip, 1), 2, NONE, 2);
        });
        Edges.of("T LAW 3: of alike ones the new one", () -> {
            Edges.due(Edges.with(pair + "law 3;").year(0), 1);
            LotBeliefs x = Edges.with(pair + "law 3;");
            x.order(0x10);
            Edges.due(x.year(0), 2);
        });
        Edges.of("T LAW 3: MODELS, not those that are LEFT", () ->
                Edges.due(Edges.with("slip a;slip not a and b;see 0 not a or not c and not d and not b;law 3;").year(0), 1));
        Edges.of("T LAW 4: as the TONGUE tells; without a TONGUE both", () -> {
            LotBeliefs x = Edges.with(pair + "law 4;");
            Edges.due(x.year(0), 0);
            Feeder.tongue(x, "new 1=1;");
            Edges.due(x.year(0), 1);
            Feeder.tongue(x, "old 1=1;");
            Edges.due(x.year(0), 2);
            Feeder.tongue(x, "both 1=1;");
            Edges.due(x.year(0), 0);
            Feeder.tongue(x, "old 1=2;");
            Edges.due(x.year(0), 0);
        });
        Edges.of("T other LAWS do not hear the TONGUE", () -> {
            int[] due = {0, 1, 2, 1};
            for (int law = 0; law < 4; law++) {
                Edges.due(Edges.with(pair + "law " + law + ";", law == 1 ? "old 1=1;" : "new 1=1;").year(0), due[law]);
            }
        });
    }

    private static void weeks() {
        Edges.of("T a YEAR: all 52 WEEKS", () -> {
            LotBeliefs x = Edges.with("slip a;slip b;see 51 not a;world 0;");
            Edges.due(x.held(50), 3);
            Edges.due(x.held(51), 2);
            Edges.row(x::year, 2, 0, 1, 51 + 51, 0, 1);
            Edges.row(what -> x.fate(0, what), 0, 51, NONE, 51, 51);
        });
        Edges.of("T a YEAR of twelve: the last is drawn in WEEK 11", () -> {
            LotBeliefs x = Edges.with("slip a;".repeat(11) + "slip b;see 11 not b;");
            Edges.row(what -> x.fate(11, what), 11, 11, NONE, 0, 0);
            LotBeliefs y = Edges.with("slip a;".repeat(11) + "slip b;see 12 not b;");
            Edges.row(what -> y.fate(11, what), 11, 12, NONE, 1, 1);
        });
        Edges.of("T in a YEAR there are no SALTS", () -> {
            LotBeliefs x = Edges.with("slip not a;salt a;salt b;law 1;");
            Edges.due(x.year(0), 1);
            Edges.due(x.fate(0, 0), 0);
            Edges.due(x.fate(0, 3), 52);
            Edges.row(x::ends, 1, 1, 0);
        });
        Edges.of("T no WORLD LEFT from WEEK 0: each is KILLED at its draw", () -> {
            LotBeliefs x = Edges.with("slip a;slip b;see 0 a;see 0 not a;");
            Edges.row(x::year, 0, 0, 2, 0, 0, 0);
            Edges.row(what -> x.fate(1, what), 1, 1, NONE, 0, 0);
        });
    }

    // ---- promises 19 to 22 ----

    private static void held() {
        Edges.of("19 HELD behind a WEEK (0 to 51), as bits", () -> {
            LotBeliefs x = Edges.with(FOUR);
            int[] due = {1, 0, 4, 12};
            for (int week = 0; week < 52; week++) {
                Edges.due(x.held(week), due[Math.min(week, 3)]);
            }
            Edges.between(x, 0, 51, x::held);
        });
        Edges.of("19 the twelfth bit; and nothing ahead of the draw", () -> {
            LotBeliefs x = Edges.with(TWELVE);
            Edges.due(x.held(10), 2047);
            Edges.due(x.held(11), 4095);
            Edges.due(x.held(51), 4095);
        });
    }

    private static void fate() {
        Edges.of("20 drawn, fell or KILLED, by whom, held, hurts", () -> {
            LotBeliefs x = Edges.with(FOUR);
            x.law(2);
            x.world(0);
            Edges.row(what -> x.fate(0, what), 0, 1, 1, 1, 1);
            Edges.row(what -> x.fate(1, what), 1, 2, NONE, 1, 0);
            Edges.row(what -> x.fate(2, what), 2, NONE, NONE, 50, 50);
            Edges.row(what -> x.fate(3, what), 3, NONE, NONE, 49, 49);
        });
        Edges.of("20 IndexOutOfBoundsException ahead of others; what 0 to 4", () -> {
            LotBeliefs x = Edges.with(FOUR);
            Edges.numbered(x, 4, i -> x.fate(i, 0));
            Edges.numbered(x, 4, i -> x.fate(i, 5));
            Edges.numbered(x, 4, i -> x.fate(i, -1));
            Edges.between(x, 0, 4, what -> x.fate(3, what));
        });
        Edges.of("20 by whom: the SLIP, though it falls itself", () -> {
            LotBeliefs x = Edges.with("slip c;".repeat(10) + "slip a;slip not a;");
            Edges.due(x.fate(10, 2), 11);
            Edges.due(x.fate(11, 2), 10);
        });
    }

    private static void year() {
        Edges.of("21 what 0 to 5", () -> {
            LotBeliefs x = Edges.with(FOUR);
            Edges.between(x, 0, 5, x::year);
        });
        Edges.of("21 at the end, fell, KILLED, hurts, so in the world that IS, FIT", () -> {
            LotBeliefs x = Edges.with("slip a;slip not a;slip b;slip a and b;slip c;see 4 not b;law 1;world 3;");
            Edges.row(x::year, 17, 1, 2, 48, 1, 1);
            x.world(4);
            Edges.row(x::year, 17, 1, 2, 52 + 2 + 1 + 0, 1, 1);
        });
        Edges.of("21 most that can fall, be KILLED, hurt", () -> {
            Edges.row(Edges.with("slip a;slip not a;".repeat(6))::year, 0, 12, 0, 6, 0, 1);
            Edges.row(Edges.with("slip a and not a;".repeat(12))::year, 0, 0, 12, 0, 0, 1);
            Edges.row(Edges.with(TWELVE)::year, 4095, 0, 0, 558, 0, 1);
            Edges.row(Edges.with(TWELVE + "world 1;")::year, 4095, 0, 0, 0, 12, 1);
        });
        Edges.of("21 all held at the end FIT: by what is LEFT in WEEK 51", () -> {
            Edges.due(Edges.with("slip a;slip b;see 51 not a or not b;").year(5), 0);
            Edges.due(Edges.with("slip a or b;slip not a;slip not b;").year(5), 0);
            Edges.due(Edges.with("slip a;see 51 not a;").year(5), 1);
            Edges.due(Edges.with("see 51 a;see 51 not a;").year(5), 0);
        });
    }

    private static void touchy() {
        Edges.of("22 two that stand beside one another: one place less than SLIPS", () -> {
            Edges.due(new LotBeliefs().touchy(), 0);
            Edges.due(Edges.with("slip a;").touchy(), 0);
            Edges.due(Edges.with("slip a;slip not a;law 1;").touchy(), 1);
            Edges.due(Edges.with("slip a;slip not a;law 0;").touchy(), 0);
            Edges.due(Edges.with("slip not a;" + "slip a;".repeat(11) + "law 1;").touchy(), 1);
            Edges.due(Edges.with("slip b;".repeat(10) + "slip a;slip not a;law 1;").touchy(), 1);
        });
        Edges.of("22 another END, not another way to it", () -> {
            LotBeliefs x = Edges.with("slip a;slip not a;see 2 not a;law 1;");
            Edges.due(x.held(1), 1);
            Edges.due(x.touchy(), 1);
            LotBeliefs y = Edges.with("slip a;slip not a;see 2 not a;see 3 a;law 1;");
            Edges.due(y.touchy(), 0);
        });
        Edges.of("22 the ORDER stays", () -> {
            LotBeliefs x = Edges.with("slip a;slip not a;slip b;law 1;");
            x.order(0x201);
            Edges.due(x.touchy(), 1);
            Edges.row(x::at, 2, 0, 1);
        });
    }

    // ---- promise 39 ----

    private static void killer() {
        Edges.of("T KILLER: the first SEEING (as told), of those of its WEEK and ahead", () -> {
            Edges.due(Edges.with("slip a;see 5 not a;see 3 not a;").killer(0), 1);
            Edges.due(Edges.with("slip a;see 3 b;see 1 not a;").killer(0), 1);
            Edges.due(Edges.with("slip a;see 3 not a;see 3 not a;").killer(0), 0);
            Edges.due(Edges.with("slip a;see 0 not a;").killer(0), 0);
            Edges.due(Edges.with("slip a;see 51 not a;").killer(0), 0);
            Edges.due(Edges.with("slip a;" + "see 0 b;".repeat(11) + "see 51 not a;").killer(0), 11);
        });
        Edges.of("T KILLER: all of them that were told up to it", () -> {
            Edges.due(Edges.with("slip a and b;see 2 not a or not b or c;see 2 not c;").killer(0), 1);
            Edges.due(Edges.with("slip a and b;see 9 not a;see 4 not b or c;see 1 not c;").killer(0), 2);
            Edges.due(Edges.with("slip a;see 2 not b;see 1 c;see 2 b;").killer(0), 2);
        });
        Edges.of("T KILLER of a SLIP drawn late: its WEEK is that of the draw", () -> {
            LotBeliefs x = Edges.with("slip c;slip d;slip a;see 2 not a;see 0 not a;");
            Edges.due(x.killer(2), 0);
            x.order(0x021);
            Edges.due(x.killer(2), 1);
            x.order(0x201);
            Edges.due(x.killer(2), 1);
        });
        Edges.of("39 NONE: it is not KILLED in the YEAR", () -> {
            LotBeliefs x = Edges.with("slip a;slip not a;slip b;see 9 not a;see 9 a;law 0;");
            Edges.due(x.killer(0), NONE);
            Edges.due(x.killer(1), NONE);
            x.law(1);
            Edges.due(x.killer(0), 0);
            Edges.due(x.killer(1), NONE);
            Edges.due(x.killer(2), 1);
            Edges.due(Edges.with("slip b;see 9 not a;").killer(0), NONE);
        });
        Edges.of("39 NONE: it has no MODELS and there are no SEEINGS of its WEEK or ahead", () -> {
            String two = "slip c;slip a and not a;";
            Edges.due(Edges.with(two).killer(1), NONE);
            Edges.due(Edges.with(two + "see 2 b;").killer(1), NONE);
            Edges.due(Edges.with(two + "see 2 b;see 1 b;see 0 b;").killer(1), 1);
            Edges.due(Edges.with(two + "see 1 b;").killer(1), 0);
        });
        Edges.of("39 IndexOutOfBoundsException: no such SLIP", () -> {
            LotBeliefs x = Edges.with(FOUR);
            Edges.numbered(x, 4, x::killer);
        });
    }

    // ---- promises 42, 51 to 54 ----

    private static void eldest() {
        Edges.of("42 the eldest that is HELD behind a WEEK; NONE", () -> {
            LotBeliefs x = Edges.with("slip a;slip b;slip c;see 1 not a;see 5 not b;see 51 not c;");
            for (int week = 0; week < 52; week++) {
                Edges.due(x.eldest(week), week < 1 ? 0 : week < 5 ? 1 : week < 51 ? 2 : NONE);
            }
        });
        Edges.of("42 NONE of twelve", () -> {
            LotBeliefs x = Edges.with("slip a and not a;".repeat(12));
            Edges.due(x.eldest(11), NONE);
            Edges.due(x.eldest(51), NONE);
        });
        Edges.of("42 by the ORDER, not by number", () -> {
            LotBeliefs x = Edges.with(TWELVE);
            x.order(0xBA9876543210L);
            Edges.due(x.eldest(0), 11);
            Edges.due(x.eldest(51), 11);
        });
        Edges.of("42 IllegalArgumentException: WEEK", () -> {
            LotBeliefs x = Edges.with(FOUR);
            Edges.between(x, 0, 51, x::eldest);
            LotBeliefs y = new LotBeliefs();
            Edges.between(y, 0, 51, y::eldest);
        });
    }

    private static void graves() {
        Edges.of("T GRAVES: by WEEKS for which they were held, the most first", () -> {
            LotBeliefs x = Edges.with("slip a;slip b;slip c;slip d;see 4 not a;see 9 not c;see 51 not b;");
            Edges.row(x::grave, 1, 2, 0, NONE);
        });
        Edges.of("T GRAVES: of alike ones the least", () -> {
            LotBeliefs x = Edges.with("slip a;slip b;slip c;see 9 not a;see 10 not b;see 11 not c;");
            Edges.row(x::grave, 0, 1, 2, NONE);
            x.order(0x210);
            Edges.row(x::grave, 2, 1, 0, NONE);
            LotBeliefs y = Edges.with("slip a and not a;slip b;slip a and not a;");
            y.order(0x210);
            Edges.row(y::grave, 0, 2, NONE);
        });
        Edges.of("T GRAVES: those that fell and those KILLED", () -> {
            LotBeliefs x = Edges.with("slip a;slip not a;slip b;see 4 not b;");
            Edges.row(x::grave, 2, 0, 1, NONE);
        });
        Edges.of("51 NONE: none such", () -> {
            LotBeliefs x = Edges.with("slip a and not a;".repeat(12));
            Edges.row(x::grave, 0, 1, 2, 3, 4, 5, 6, 7, 8, 9, 10, 11, NONE);
            for (int i : new int[] {-1, 12, 13, Integer.MIN_VALUE, Integer.MAX_VALUE}) {
                Edges.due(x.grave(i), NONE);
            }
            Edges.due(Edges.with(TWELVE).grave(0), NONE);
            Edges.due(new LotBeliefs().grave(0), NONE);
        });
    }

    private static void canon() {
        Edges.of("52 IllegalArgumentException: k 0 to 52", () -> {
            LotBeliefs x = Edges.with(FOUR);
            Edges.between(x, 0, 52, x::canon);
        });
        Edges.of("T CANON: for k WEEKS or more", () -> {
            LotBeliefs x = Edges.with(TWELVE + "world 1;");
            for (int k = 0; k <= 52; k++) {
                int late = k <= 41 ? 12 : 53 - k;
                Edges.due(x.canon(k), (1 << late) - 1);
            }
        });
        Edges.of("T CANON: held at the end, and never hurt", () -> {
            LotBeliefs x = Edges.with("slip a;slip b;slip c;see 51 not a;world 3;");
            Edges.due(x.canon(0), 2);
            Edges.due(x.canon(51), 2);
            Edges.due(x.canon(52), 0);
            x.world(0);
            Edges.due(x.canon(0), 0);
        });
    }

    private static void swap() {
        Edges.of("53 NONE: none is better (as many are no more)", () -> {
            Edges.due(Edges.with("slip a;slip b;world 3;").swap(), NONE);
            Edges.due(Edges.with("slip a;slip not a;law 0;world 1;").swap(), NONE);
            Edges.due(Edges.with("slip a;slip not a;law 1;world 1;").swap(), NONE);
            Edges.due(Edges.with("slip a;").swap(), NONE);
            Edges.due(new LotBeliefs().swap(), NONE);
        });
        Edges.of("53 16 times the one place, and the other", () -> {
            Edges.due(Edges.with("slip not a;slip a;law 1;world 1;").swap(), 1);
            Edges.due(Edges.with("slip not a;".repeat(10) + "slip a;slip not a;law 2;world 1;").swap(), 16 * 10 + 11);
            Edges.due(Edges.with("slip not a;".repeat(11) + "slip a;law 1;world 1;").swap(), 11);
        });
        Edges.of("T SWAP: places of the ORDER, not SLIPS", () -> {
            LotBeliefs x = Edges.with("slip b;slip a;slip not a;law 1;world 1;");
            x.order(0x021);
            Edges.due(x.swap(), 2);
            x.order(0x201);
            Edges.due(x.swap(), 2);
            x.order(0x210);
            Edges.due(x.swap(), 1);
        });
        Edges.of("T SWAP: of these the first two", () -> {
            LotBeliefs x = Edges.with("slip b;slip not a;slip c;slip a;law 1;world 1;");
            Edges.due(x.swap(), 3);
            LotBeliefs y = Edges.with("slip not a;slip a;slip a;law 1;world 1;");
            Edges.due(y.swap(), 1);
        });
        Edges.of("T SWAP: those by which most are held", () -> {
            LotBeliefs x = Edges.with("slip not a;slip not b;slip a;slip a and b;law 1;world 3;");
            Edges.due(x.year(4), 0);
            Edges.due(x.swap(), 3);
            x.order(0x2103);
            Edges.due(x.year(4), 1);
            x.order(0x3120);
            Edges.due(x.year(4), 2);
        });
        Edges.of("53 the ORDER stays", () -> {
            LotBeliefs x = Edges.with("slip not a;slip a;law 1;world 1;");
            x.swap();
            Edges.row(x::at, 0, 1);
        });
    }

    private static void humble() {
        Edges.of("T HUMBLE: none has to be left out, or all", () -> {
            Edges.due(new LotBeliefs().humble(), 0);
            Edges.due(Edges.with(TWELVE).humble(), 0);
            Edges.due(Edges.with("slip a and not a;".repeat(12)).humble(), 4095);
            Edges.due(Edges.with("slip a;see 51 not a;").humble(), 1);
        });
        Edges.of("T HUMBLE: the fewest; of alike ones the least bits", () -> {
            for (int law = 0; law < 5; law++) {
                Edges.due(Edges.with("slip a;slip not a;law " + law + ";").humble(), 1);
                Edges.due(Edges.with("slip a;slip a;slip not a;law " + law + ";").humble(), 4);
                Edges.due(Edges.with("slip a;slip b;slip not a;slip not b;law " + law + ";").humble(), 3);
            }
            Edges.due(Edges.with("slip not a;" + "slip a;".repeat(11)).humble(), 1);
            Edges.due(Edges.with("slip a;".repeat(11) + "slip not a;").humble(), 2048);
        });
        Edges.of("T HUMBLE: others move up", () -> {
            String pair = "slip a;slip b;slip c;slip d and not d;see 2 not b or not c;";
            Edges.due(Edges.with(pair).humble(), 8 + 1);
            LotBeliefs x = Edges.with(pair);
            x.order(0x3120);
            Edges.due(x.humble(), 8);
            LotBeliefs y = Edges.with(pair);
            y.order(0x1023);
            Edges.due(y.humble(), 8 + 1);
        });
        Edges.of("T HUMBLE: held in the END, though they do not FIT", () ->
                Edges.due(Edges.with("slip a or b;slip not a;slip not b;").humble(), 0));
        Edges.of("54 the ORDER stays", () -> {
            LotBeliefs x = Edges.with("slip a;slip not a;slip b;");
            x.order(0x201);
            x.humble();
            Edges.row(x::at, 2, 0, 1);
        });
    }
}
