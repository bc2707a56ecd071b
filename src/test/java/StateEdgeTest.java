import java.util.List;
import java.util.Set;
import java.util.TreeSet;
import java.util.function.Consumer;
import java.util.function.ToLongFunction;

/** What each call changes and what it leaves: refused, unanswered and ordinary ones; promises 56 to 59. */
public final class StateEdgeTest {
    private static final String JAR = "atoms 3;slip a;slip not a;slip b or c;slip not b;see 2 a or c;see 4 c;salt b;"
            + "salt not c;world 2;law 3;";

    public static void main(String[] args) {
        refusals();
        refusalsOfMany();
        answersOfNone();
        faultyTexts();
        goodTexts();
        setters();
        questions();
        askedAgain();
        images();
        fullImages();
        status();
        count();
        Edges.done();
    }

    // ---- objects with something in each part ----

    /** Two IMAGES are there, the TAPE is empty, and the latest text had a FAULT at 2. */
    private static LotBeliefs busy() {
        LotBeliefs x = Edges.with(JAR);
        Feeder.tongue(x, "new age=1;old oldn<newn;");
        Feeder.question(x, "c or not a");
        x.image();
        x.order(0x2103);
        x.law(2);
        x.world(5);
        x.image();
        x.order(0x3120);
        x.law(4);
        x.world(6);
        Feeder.question(x, "a b");
        return x;
    }

    private static LotBeliefs rich() {
        LotBeliefs x = busy();
        Feeder.feed(x, "slip a;slip b;law 3;");
        return x;
    }

    private static LotBeliefs full() {
        LotBeliefs x = rich();
        x.image();
        Feeder.feed(x, "see 0 a;" + " ".repeat(572));
        return x;
    }

    private static LotBeliefs eight() {
        LotBeliefs x = Edges.with("slip a;slip not a;".repeat(4));
        x.order(0x76543210L);
        x.image();
        x.law(1);
        x.world(3);
        return x;
    }

    private static Set<String> changes(LotBeliefs one, LotBeliefs two, Consumer<LotBeliefs> call) {
        call.accept(two);
        return Snapshot.of(one).unlike(Snapshot.of(two));
    }

    private static void need(Set<String> got, String... want) {
        Set<String> due = new TreeSet<>(List.of(want));
        if (!got.equals(due)) {
            Edges.fail("changed " + got + ", due is " + due);
        }
    }

    /** The call is refused by the kind, and nothing but what status counts is changed. */
    private static void refuses(int kind, LotBeliefs one, LotBeliefs two, ToLongFunction<LotBeliefs> call) {
        need(changes(one, two, x -> Edges.refused(x, kind, () -> call.applyAsLong(x))), "status");
    }

    private static void index(ToLongFunction<LotBeliefs> call) {
        refuses(0, rich(), rich(), call);
        refuses(0, full(), full(), call);
    }

    private static void argument(ToLongFunction<LotBeliefs> call) {
        refuses(1, rich(), rich(), call);
        refuses(1, full(), full(), call);
    }

    /** The call answers so, and nothing is changed, status neither. */
    private static void leaves(LotBeliefs one, LotBeliefs two, long want, ToLongFunction<LotBeliefs> call) {
        need(changes(one, two, x -> Edges.due(call.applyAsLong(x), want)));
    }

    // ---- refused calls ----

    private static void refusals() {
        Edges.of("IndexOutOfBoundsException: nothing is changed", () -> {
            for (int wrong : new int[] {-1, 4, Integer.MIN_VALUE}) {
                index(x -> x.models(wrong));
                index(x -> x.seen(wrong));
                index(x -> x.kin(wrong, 0));
                index(x -> x.kin(0, wrong));
                index(x -> x.fallOut(wrong, 0, 0) ? 1 : 0);
                index(x -> x.fallOut(0, wrong, 0) ? 1 : 0);
                index(x -> x.fate(wrong, 0));
                index(x -> x.orders(wrong));
                index(x -> x.killer(wrong));
                index(x -> x.century(wrong, 1, 1));
                index(x -> x.plain(wrong));
                index(x -> x.judge(wrong, 0, 0, 0));
                index(x -> x.judge(0, wrong, 0, 0));
            }
        });
        Edges.of("IllegalArgumentException: a WEEK; nothing is changed", () -> {
            for (int wrong : new int[] {-1, 52}) {
                argument(x -> x.left(wrong));
                argument(x -> x.fallOut(0, 0, wrong) ? 1 : 0);
                argument(x -> x.held(wrong));
                argument(x -> x.fits(0, wrong) ? 1 : 0);
                argument(x -> x.sets(wrong, 0));
                argument(x -> x.whole(wrong, 0));
                argument(x -> x.proof(wrong));
                argument(x -> x.split(wrong, 0));
                argument(x -> x.likely(wrong));
                argument(x -> x.school(0, wrong));
                argument(x -> x.together(0, wrong));
                argument(x -> x.following(0, wrong));
                argument(x -> x.eldest(wrong));
                argument(x -> x.quarrels(wrong));
                argument(x -> x.peace(wrong));
                argument(x -> x.known(0, wrong));
                argument(x -> x.asks(wrong));
                argument(x -> x.judge(0, 0, 0, wrong));
            }
        });
        Edges.of("IllegalArgumentException: another what; nothing is changed", () -> {
            for (int wrong : new int[] {-1, 6}) {
                argument(x -> x.told(wrong));
                argument(x -> x.fate(0, wrong));
                argument(x -> x.year(wrong));
                argument(x -> x.ends(wrong));
                argument(x -> x.sets(0, wrong));
                argument(x -> x.split(0, wrong));
                argument(x -> x.worst(wrong));
                argument(x -> x.war(wrong));
            }
        });
    }

    private static void refusalsOfMany() {
        Edges.of("IllegalArgumentException: bits, LAWS, WORLDS, SEEDS, k; nothing is changed", () -> {
            for (int wrong : new int[] {-1, 64}) {
                argument(x -> x.law(wrong));
                argument(x -> x.world(wrong));
                argument(x -> x.fits(wrong, 0) ? 1 : 0);
                argument(x -> x.salted(wrong));
                argument(x -> x.salty(wrong));
                argument(x -> x.together(wrong, 0));
                argument(x -> x.following(wrong, 0));
                argument(x -> x.compared(wrong));
                argument(x -> x.drawn(wrong, 1, 1));
                argument(x -> x.drawn(0, 1, wrong));
                argument(x -> x.century(0, 1, wrong));
                argument(x -> x.school(wrong, 0));
                argument(x -> x.right(wrong));
                argument(x -> x.known(wrong, 0));
                argument(x -> x.canon(wrong));
                argument(x -> x.judge(0, 0, wrong, 0));
            }
        });
        Edges.of("3 to 5 IllegalArgumentException: n; the TAPE stays, and all else", () -> {
            for (int wrong : new int[] {-1, 601, Integer.MAX_VALUE}) {
                argument(x -> x.jar(wrong));
                argument(x -> x.question(wrong));
                argument(x -> x.tongue(wrong));
            }
            refuses(1, rich(), rich(), x -> x.jar(21));
            refuses(1, full(), full(), x -> x.question(201));
            refuses(1, full(), full(), x -> x.tongue(201));
        });
        Edges.of("IllegalStateException: nothing is changed", () -> {
            refuses(2, eight(), eight(), x -> x.ends(0));
            refuses(2, eight(), eight(), x -> x.orders(0));
            refuses(2, eight(), eight(), LotBeliefs::best);
            refuses(2, eight(), eight(), x -> x.compared(0));
            refuses(2, eight(), eight(), x -> x.worst(0));
            refuses(2, eight(), eight(), x -> x.plain(0));
        });
        Edges.of("a refused call leaves the answers of the next ones", () -> {
            LotBeliefs x = rich();
            LotBeliefs y = rich();
            x.ends(0);
            Edges.argument(x, () -> x.ends(3));
            Edges.argument(x, () -> x.compared(5));
            Edges.argument(x, () -> x.world(8));
            for (int what = 0; what < 3; what++) {
                Edges.due(x.ends(what), y.ends(what));
            }
            for (int what = 0; what < 6; what++) {
                Edges.due(x.year(what), y.year(what));
            }
        });
    }

    // ---- calls that answer NONE, 0 or -1 ----

    private static void answersOfNone() {
        Edges.of("2 feed: NONE, doing nothing", () -> leaves(full(), full(), -1, x -> x.feed(1, 2, 3, 4, 5)));
        Edges.of("15 order: 0: it stays", () -> {
            for (long wrong : new long[] {0, -1, 0x3214, 0x3321, 0x13120, 0x31}) {
                leaves(rich(), rich(), 0, x -> x.order(wrong));
            }
        });
        Edges.of("56 image: -1: there are 3", () -> leaves(full(), full(), -1, LotBeliefs::image));
        Edges.of("57 restore: -1: there is none", () -> {
            leaves(Edges.with(JAR), Edges.with(JAR), -1, LotBeliefs::restore);
            leaves(new LotBeliefs(), new LotBeliefs(), -1, LotBeliefs::restore);
        });
        Edges.of("NONE: none such: nothing is changed", () -> {
            for (int wrong : new int[] {-1, 12, Integer.MIN_VALUE, Integer.MAX_VALUE}) {
                leaves(rich(), rich(), -1, x -> x.at(wrong));
                leaves(rich(), rich(), -1, x -> x.draw(1, wrong));
                leaves(rich(), rich(), -1, x -> x.grave(wrong));
                leaves(rich(), rich(), -1, x -> x.whole(0, wrong));
                leaves(rich(), rich(), -1, x -> x.status(wrong));
                leaves(rich(), rich(), -1, x -> x.count(wrong));
            }
        });
    }

    private static void faultyTexts() {
        Edges.of("3 a FAULT: all but the TAPE stays", () -> {
            for (String text : new String[] {"slip a;slip b;law 9;", "atoms 2;slip a;atoms 2;", "slip a", ";",
                "slip a;".repeat(13), "world 1;see 1 a;salt a;?", "atoms 6;world 63;law 1;slip g;"}) {
                need(changes(busy(), busy(), x -> Edges.due(Feeder.jar(x, text) < 0, true)), "fault");
            }
        });
        Edges.of("4 likewise a QUESTION", () -> {
            for (String text : new String[] {"a or or", "b;", "", "?", "a".repeat(200), "not [b or c"}) {
                need(changes(busy(), busy(), x -> Edges.due(Feeder.question(x, text) < 0, true)), "fault");
            }
        });
        Edges.of("5 likewise a TONGUE", () -> {
            for (String text : new String[] {"new 1=1;old 1=;", "new 1=1000;", "?", "old 1=1;".repeat(11), "both 1=1"}) {
                need(changes(busy(), busy(), x -> Edges.due(Feeder.tongue(x, text) < 0, true)), "fault");
            }
        });
        Edges.of("3 to 5 a FAULT empties the TAPE", () -> {
            need(changes(rich(), rich(), x -> Edges.due(x.jar(1), -9)), "fault", "tape");
            need(changes(rich(), rich(), x -> Edges.due(x.question(1), -9)), "fault", "tape");
            need(changes(rich(), rich(), x -> Edges.due(x.tongue(1), -9)), "fault", "tape");
        });
    }

    private static void goodTexts() {
        Edges.of("4 a QUESTION changes but itself and the place of the FAULT", () ->
                need(changes(busy(), busy(), x -> Feeder.question(x, "b")), "fault", "question"));
        Edges.of("5 a TONGUE changes but itself and the place of the FAULT", () ->
                need(changes(busy(), busy(), x -> Feeder.tongue(x, "old 1=1;")), "fault", "tongue"));
        Edges.of("3 a JAR changes all but what status counts", () -> {
            LotBeliefs one = busy();
            LotBeliefs two = busy();
            for (LotBeliefs x : new LotBeliefs[] {one, two}) {
                Edges.index(x, () -> x.models(9));
                Edges.argument(x, () -> x.left(52));
            }
            need(changes(one, two, x -> Feeder.jar(x, "atoms 3;slip a;slip b;")), "fault", "images", "jar", "law",
                    "order", "question", "tongue", "world");
        });
        Edges.of("3 behind a JAR it is as in a new object", () -> {
            LotBeliefs x = busy();
            Feeder.jar(x, JAR);
            need(Snapshot.of(x).unlike(Snapshot.of(Edges.with(JAR))));
            LotBeliefs y = full();
            y.jar(0);
            need(Snapshot.of(y).unlike(Snapshot.of(new LotBeliefs())));
        });
    }

    // ---- calls that change one thing ----

    private static void setters() {
        Edges.of("2 feed changes but the TAPE", () -> need(changes(rich(), rich(), x -> x.feed(1, 2, 3, 4, 5)), "tape"));
        Edges.of("15 order changes but the ORDER", () -> need(changes(rich(), rich(), x -> x.order(0x0123)), "order"));
        Edges.of("17 law changes but the LAW", () -> need(changes(rich(), rich(), x -> x.law(0)), "law"));
        Edges.of("18 world changes but the world that IS", () -> need(changes(rich(), rich(), x -> x.world(0)), "world"));
        Edges.of("25 best changes but the ORDER", () -> need(changes(rich(), rich(), LotBeliefs::best), "order"));
        Edges.of("56 image changes but IMAGES", () -> need(changes(rich(), rich(), LotBeliefs::image), "images"));
        Edges.of("57 restore changes ORDER, LAW, the world that IS, and IMAGES", () ->
                need(changes(rich(), rich(), LotBeliefs::restore), "images", "law", "order", "world"));
        Edges.of("15, 17, 18 set to what they are: nothing is changed", () -> {
            leaves(rich(), rich(), 1, x -> x.order(0x3120));
            leaves(rich(), rich(), 4, x -> x.law(4));
            leaves(rich(), rich(), 6, x -> x.world(6));
        });
    }

    /** Calls that only answer. */
    private static final List<ToLongFunction<LotBeliefs>> ASKING = List.of(LotBeliefs::fault, x -> x.told(3),
            x -> x.models(3), x -> x.seen(1), x -> x.left(3), x -> x.kin(0, 1), x -> x.fallOut(0, 1, 3) ? 1 : 0,
            LotBeliefs::truths, LotBeliefs::dull, x -> x.at(2), x -> x.held(3), x -> x.fate(2, 3), x -> x.year(3),
            LotBeliefs::touchy, x -> x.ends(0), x -> x.orders(2), x -> x.fits(3, 3) ? 1 : 0, x -> x.sets(2, 1),
            x -> x.whole(1, 1), x -> x.proof(2), x -> x.split(1, 0), x -> x.likely(1), x -> x.salted(5),
            x -> x.salty(3), x -> x.compared(1), x -> x.drawn(2, 77, 60), x -> x.draw(77, 1), x -> x.school(1, 3),
            x -> x.right(0), x -> x.killer(1), x -> x.together(5, 1), x -> x.following(5, 1), x -> x.eldest(2),
            x -> x.quarrels(1), x -> x.peace(1), x -> x.worst(1), x -> x.century(2, 77, 60), x -> x.known(2, 1),
            x -> x.plain(2), x -> x.asks(1), x -> x.war(0), x -> x.grave(0), x -> x.canon(3), LotBeliefs::swap,
            LotBeliefs::humble, x -> x.judge(0, 1, 3, 3), x -> x.status(1), x -> x.count(1));

    private static void questions() {
        Edges.of("calls that only answer change nothing", () -> {
            for (ToLongFunction<LotBeliefs> call : ASKING) {
                need(changes(rich(), rich(), call::applyAsLong));
            }
        });
        Edges.of("calls that only answer answer alike, whatever was asked ahead", () -> {
            for (ToLongFunction<LotBeliefs> first : ASKING) {
                LotBeliefs x = rich();
                first.applyAsLong(x);
                for (ToLongFunction<LotBeliefs> call : ASKING) {
                    Edges.due(call.applyAsLong(x), call.applyAsLong(rich()));
                }
            }
        });
    }

    private interface Numbered {
        long answer(LotBeliefs x, int i);
    }

    private static void sameAgain(int most, Numbered... calls) {
        for (Numbered call : calls) {
            LotBeliefs x = rich();
            for (int i = 0; i <= 2 * most; i++) {
                int number = i * 7 % (most + 1);
                Edges.due(call.answer(x, number), call.answer(rich(), number));
            }
        }
    }

    private static void askedAgain() {
        Edges.of("calls of WEEKS answer alike, whichever WEEK was asked ahead", () -> sameAgain(51,
                (x, w) -> x.left(51 - w), (x, w) -> x.held(51 - w), (x, w) -> x.sets(51 - w, 0), (x, w) -> x.sets(w, 1),
                (x, w) -> x.sets(w, 2), (x, w) -> x.sets(51 - w, 3), (x, w) -> x.whole(w, 0), (x, w) -> x.proof(51 - w),
                (x, w) -> x.split(w, 0), (x, w) -> x.likely(w), (x, w) -> x.school(w % 2, w), (x, w) -> x.eldest(w),
                (x, w) -> x.quarrels(w), (x, w) -> x.peace(w), (x, w) -> x.peace(51 - w), (x, w) -> x.asks(w),
                (x, w) -> x.known(w % 3, 51 - w), (x, w) -> x.canon(w), (x, w) -> x.judge(0, 1, w, 51 - w)));
        Edges.of("calls of SLIPS answer alike, whichever SLIP was asked ahead", () -> sameAgain(3,
                (x, s) -> x.fate(3 - s, 1), (x, s) -> x.fate(s, 2), (x, s) -> x.orders(3 - s), (x, s) -> x.killer(s),
                (x, s) -> x.century(s, 9, 9), (x, s) -> x.plain(3 - s), (x, s) -> x.judge(s, 3 - s, 1, 1)));
        Edges.of("calls of LAWS, sets and SALTS answer alike, whichever was asked ahead", () -> {
            sameAgain(4, (x, law) -> x.compared(4 - law), (x, law) -> x.drawn(law, 5, 9));
            sameAgain(15, (x, set) -> x.salted(15 - set), (x, set) -> x.following(set, 1));
            sameAgain(3, (x, salts) -> x.salty(3 - salts), (x, i) -> x.draw(99, i), (x, i) -> x.grave(3 - i));
        });
        Edges.of("by a LAW and a world that IS that were left and are back", () -> {
            LotBeliefs x = rich();
            LotBeliefs y = rich();
            for (int law = 0; law < 5; law++) {
                for (int world = 0; world < 8; world++) {
                    x.law(law);
                    x.world(world);
                    x.worst(0);
                    x.year(3);
                }
            }
            x.law(4);
            x.world(6);
            for (int what = 0; what < 2; what++) {
                Edges.due(x.worst(what), y.worst(what));
                Edges.due(x.ends(what), y.ends(what));
                Edges.due(x.year(what), y.year(what));
            }
        });
    }

    // ---- promises 56 to 59 ----

    private static void images() {
        Edges.of("56 how many there are; 57 how many are left", () -> {
            LotBeliefs x = new LotBeliefs();
            for (int i = 1; i <= 3; i++) {
                Edges.due(x.image(), i);
                Edges.due(x.count(0), i);
            }
            Edges.due(x.image(), -1);
            Edges.due(x.count(0), 3);
            for (int i = 2; i >= 0; i--) {
                Edges.due(x.restore(), i);
                Edges.due(x.count(0), i);
            }
            Edges.due(x.restore(), -1);
            Edges.due(x.count(0), 0);
            Edges.due(x.image(), 1);
        });
        Edges.of("57 all is as in the latest IMAGE, which is gone", () -> {
            LotBeliefs x = Edges.with(JAR);
            x.image();
            x.order(0x2103);
            x.law(2);
            x.world(5);
            Edges.due(x.restore(), 0);
            need(Snapshot.of(x).unlike(Snapshot.of(Edges.with(JAR))));
        });
        Edges.of("56 an IMAGE of ORDER, of twelve SLIPS too", () -> {
            LotBeliefs x = Edges.with("slip a;".repeat(12));
            x.order(0xBA9876543210L);
            x.image();
            x.order(0x0123456789ABL);
            Edges.due(x.restore(), 0);
            Edges.row(x::at, 11, 10, 9, 8, 7, 6, 5, 4, 3, 2, 1, 0);
        });
        Edges.of("56 an IMAGE keeps no QUESTION, TONGUE, TAPE, place of a FAULT", () -> {
            LotBeliefs one = Edges.with(JAR);
            LotBeliefs two = Edges.with(JAR);
            two.image();
            for (LotBeliefs x : new LotBeliefs[] {one, two}) {
                Feeder.question(x, "b");
                Feeder.tongue(x, "old 1=1;");
                Feeder.question(x, "?");
                x.feed(1, 2, 3, 4, 5);
            }
            two.restore();
            need(Snapshot.of(one).unlike(Snapshot.of(two)));
        });
    }

    private static void fullImages() {
        Edges.of("56 there are 3: each as it was", () -> {
            LotBeliefs x = Edges.with("slip a;slip b;slip c;");
            long[] orders = {0x012, 0x120, 0x201};
            for (int i = 0; i < 3; i++) {
                x.order(orders[i]);
                x.law(i + 1);
                x.world(i + 5);
                x.image();
            }
            x.order(0x210);
            x.law(4);
            x.world(15);
            Edges.due(x.image(), -1);
            Edges.due(x.told(5), 4);
            for (int i = 2; i >= 0; i--) {
                Edges.due(x.restore(), i);
                Edges.due((long) x.at(0) << 8 | x.at(1) << 4 | x.at(2), orders[i]);
                Edges.due(x.told(5), i + 1);
                Edges.due(x.told(4), i + 5);
            }
            Edges.due(x.restore(), -1);
            Edges.due(x.told(5), 1);
        });
        Edges.of("56 an IMAGE behind one that was restored", () -> {
            LotBeliefs x = new LotBeliefs();
            x.law(1);
            x.image();
            x.law(2);
            x.image();
            x.law(3);
            Edges.due(x.restore(), 1);
            x.law(4);
            Edges.due(x.image(), 2);
            x.law(0);
            Edges.due(x.restore(), 1);
            Edges.due(x.told(5), 4);
            Edges.due(x.restore(), 0);
            Edges.due(x.told(5), 1);
        });
    }

    private static void status() {
        Edges.of("58 how many calls were refused: 0, 1, 2; NONE for others", () -> {
            LotBeliefs x = eight();
            for (int i = 1; i <= 9; i++) {
                Edges.index(x, () -> x.models(8));
                Edges.argument(x, () -> x.left(52));
                Edges.state(x, x::best);
                Edges.row(x::status, i, i, i, Edges.NONE, Edges.NONE);
            }
            for (int wrong : new int[] {-1, 3, 4, Integer.MIN_VALUE, Integer.MAX_VALUE}) {
                Edges.due(x.status(wrong), Edges.NONE);
            }
        });
        Edges.of("58 a call is counted once, by what it throws", () -> {
            LotBeliefs x = eight();
            Edges.index(x, () -> x.orders(8));
            Edges.index(x, () -> x.plain(-1));
            Edges.index(x, () -> x.judge(8, 8, 99, 99));
            Edges.index(x, () -> x.kin(8, 8));
            Edges.argument(x, () -> x.drawn(5, 0, 0));
            Edges.argument(x, () -> x.sets(52, 4));
            Edges.row(x::status, 4, 2, 0);
        });
        Edges.of("58 no IMAGE keeps it, no JAR empties it", () -> {
            LotBeliefs x = eight();
            x.image();
            Edges.index(x, () -> x.models(8));
            Edges.argument(x, () -> x.left(52));
            Edges.state(x, x::best);
            x.restore();
            Edges.row(x::status, 1, 1, 1);
            Feeder.jar(x, JAR);
            Edges.row(x::status, 1, 1, 1);
            Feeder.jar(x, "?");
            Edges.row(x::status, 1, 1, 1);
        });
        Edges.of("58 answers of NONE, 0, -1 and FAULTS are no refusals", () -> {
            LotBeliefs x = full();
            x.feed(0, 0, 0, 0, 0);
            x.order(0);
            x.at(-1);
            x.draw(0, 99);
            x.grave(99);
            x.whole(0, 99);
            x.image();
            x.jar(600);
            x.restore();
            x.swap();
            x.status(9);
            x.count(9);
            Feeder.jar(x, "?");
            Feeder.question(x, "?");
            Feeder.tongue(x, "?");
            Edges.row(x::status, 0, 0, 0);
        });
    }

    private static void count() {
        Edges.of("59 IMAGES, bytes of the TAPE; NONE for others", () -> {
            LotBeliefs x = rich();
            Edges.row(x::count, 2, 20, Edges.NONE, Edges.NONE);
            LotBeliefs y = full();
            Edges.row(y::count, 3, 600, Edges.NONE);
            for (int wrong : new int[] {-1, 2, 3, Integer.MIN_VALUE, Integer.MAX_VALUE}) {
                Edges.due(x.count(wrong), Edges.NONE);
            }
            x.question(0);
            Edges.row(x::count, 2, 0);
            x.jar(0);
            Edges.row(x::count, 0, 0);
        });
    }
}
