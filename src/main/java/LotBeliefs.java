/**
 * Beliefs drawn by lot and kept if they live: a jar of slips told as a text, the year in which they
 * are drawn Monday by Monday, and what may be asked of both. All rows are made in constructors and
 * used again: no call makes an object, so that a long run of calls fits into a small room.
 */
public final class LotBeliefs {
    public static final int NONE = -1;

    private static final int WEEKS = 52;
    private static final int TAPE_MOST = 600;
    private static final int LINE_MOST = 200;
    private static final int FEED_BYTES = 20;
    private static final int CLAUSES_MOST = 60;
    private static final int SLIPS_MOST = 12;
    private static final int SEEINGS_MOST = 12;
    private static final int SALTS_MOST = 5;
    /** SLIPS stand ahead in every row of pieces, SALTS behind them, from number 12 on. */
    private static final int PIECES_MOST = 17;
    private static final int ATOMS_MOST = 6;
    private static final int ATOMS_UNTOLD = 4;
    private static final int LAWS = 5;
    private static final int RULES_MOST = 10;
    private static final int NUMBER_MOST = 999;
    private static final int OPEN_MOST = 6;
    private static final int IMAGES_MOST = 3;
    private static final int SEEDS_MOST = 60;
    private static final int ALL_ORDERS_SLIPS = 7;
    private static final int ALL_ORDERS = 5040;
    private static final int PLAIN_ATOMS = 3;

    private static final int FAULT_STAND = 1;
    private static final int FAULT_NUMBER = 2;
    private static final int FAULT_MANY = 3;
    private static final int FAULT_ATOMS = 4;
    private static final int FAULT_LESS = 10;

    private static final int BOTH = 0;
    private static final int NEW = 1;
    private static final int OLD = 2;

    private static final int NO_SUCH_PIECE = 0;
    private static final int NO_SUCH_ARGUMENT = 1;
    private static final int NO_SUCH_STATE = 2;

    private final Tape tape = new Tape();
    private int faultPlace = NONE;

    private Jar jar = new Jar();
    private Jar spareJar = new Jar();
    private Tongue tongue = new Tongue();
    private Tongue spareTongue = new Tongue();
    private long asked = jar.all;

    private final Setting now = new Setting();
    private final Setting[] images = new Setting[IMAGES_MOST];
    private int imaged = 0;
    private final int[] refused = new int[3];

    private final int[] row = new int[PIECES_MOST];
    private final Course course = new Course(jar, tongue);
    private final Course rival = new Course(jar, tongue);
    /** One for each LAW. */
    private final Survey[] surveys = new Survey[LAWS];
    private final Subsets subsets = new Subsets();
    private final Shortest shortest = new Shortest();

    public LotBeliefs() {
        for (int i = 0; i < images.length; i++) {
            images[i] = new Setting();
        }
        for (int i = 0; i < surveys.length; i++) {
            surveys[i] = new Survey(i);
        }
    }

    // ---- texts ----

    public int feed(int a, int b, int c, int d, int e) {
        if (tape.filled + FEED_BYTES > TAPE_MOST) {
            return NONE;
        }
        tape.put(a);
        tape.put(b);
        tape.put(c);
        tape.put(d);
        tape.put(e);
        return tape.filled;
    }

    public int jar(int n) throws IllegalArgumentException {
        needBytes(n, TAPE_MOST);
        tape.begin(n);
        JarReader.read(tape, spareJar);
        faultPlace = tape.place;
        if (tape.fault != 0) {
            return tape.fault - FAULT_LESS;
        }
        Jar before = jar;
        jar = spareJar;
        spareJar = before;
        now.begin(jar);
        tongue.clear();
        asked = jar.all;
        imaged = 0;
        forgetSurveys();
        return jar.slips;
    }

    public int question(int n) throws IllegalArgumentException {
        needBytes(n, LINE_MOST);
        tape.begin(n);
        long models = Sentence.readAlone(tape, jar);
        faultPlace = tape.place;
        if (tape.fault != 0) {
            return tape.fault - FAULT_LESS;
        }
        asked = models;
        return Long.bitCount(asked);
    }

    public int tongue(int n) throws IllegalArgumentException {
        needBytes(n, LINE_MOST);
        tape.begin(n);
        TongueReader.read(tape, spareTongue);
        faultPlace = tape.place;
        if (tape.fault != 0) {
            return tape.fault - FAULT_LESS;
        }
        Tongue before = tongue;
        tongue = spareTongue;
        spareTongue = before;
        forgetSurveys();
        return tongue.rules;
    }

    public int fault() {
        return faultPlace;
    }

    public int told(int what) throws IllegalArgumentException {
        needBelow(what, 6);
        switch (what) {
            case 0:
                return jar.atoms;
            case 1:
                return jar.slips;
            case 2:
                return jar.seeings;
            case 3:
                return jar.salts;
            case 4:
                return now.world;
            default:
                return now.law;
        }
    }

    // ---- slips and seeings ----

    public long models(int slip) throws IndexOutOfBoundsException {
        needSlip(slip);
        return jar.models[slip];
    }

    public long seen(int seeing) throws IndexOutOfBoundsException {
        if (seeing < 0 || seeing >= jar.seeings) {
            refusePiece();
        }
        return jar.sights[seeing];
    }

    public long left(int week) throws IllegalArgumentException {
        needWeek(week);
        return jar.left[week];
    }

    public int kin(int slip, int other) throws IndexOutOfBoundsException {
        needSlip(slip);
        needSlip(other);
        long first = jar.models[slip];
        long second = jar.models[other];
        if (first == second) {
            return 0;
        }
        if ((first & ~second) == 0) {
            return 1;
        }
        if ((second & ~first) == 0) {
            return 2;
        }
        return (first & second) == 0 ? 3 : 4;
    }

    public boolean fallOut(int slip, int other, int week)
            throws IndexOutOfBoundsException, IllegalArgumentException {
        needSlip(slip);
        needSlip(other);
        needWeek(week);
        return jar.apart(slip, other, week);
    }

    public int truths() {
        return jar.slipsSoIn(now.world);
    }

    public int dull() {
        int bits = 0;
        for (int slip = 0; slip < jar.slips; slip++) {
            // where nothing was seen no SEEING kills, not even a SLIP without MODELS
            if (jar.seeings == 0 || (jar.dead[WEEKS - 1] >> slip & 1) == 0) {
                bits |= 1 << slip;
            }
        }
        return bits;
    }

    // ---- the order, the law, the world that is ----

    public int order(long slips) {
        if ((slips >>> (4 * jar.slips)) != 0) {
            return 0;
        }
        int seen = 0;
        for (int i = 0; i < jar.slips; i++) {
            int slip = digit(slips, i);
            if (slip >= jar.slips || (seen >> slip & 1) != 0) {
                return 0;
            }
            seen |= 1 << slip;
        }
        takeOrder(slips);
        return 1;
    }

    public int at(int i) {
        return i < 0 || i >= jar.slips ? NONE : now.order[i];
    }

    public int law(int law) throws IllegalArgumentException {
        needBelow(law, LAWS);
        int before = now.law;
        now.law = law;
        return before;
    }

    public int world(int world) throws IllegalArgumentException {
        needBelow(world, 1 << jar.atoms);
        int before = now.world;
        now.world = world;
        return before;
    }

    // ---- the year ----

    public int held(int week) throws IllegalArgumentException {
        needWeek(week);
        runYear();
        return course.seatedBehind(week);
    }

    public int fate(int slip, int what) throws IndexOutOfBoundsException, IllegalArgumentException {
        needSlip(slip);
        needBelow(what, 5);
        runYear();
        switch (what) {
            case 0:
                return course.begun[slip];
            case 1:
                return course.ended[slip] < WEEKS ? course.ended[slip] : NONE;
            case 2:
                return course.foe[slip];
            case 3:
                return course.weeksOf(slip);
            default:
                return course.hurtsOf(slip);
        }
    }

    public int year(int what) throws IllegalArgumentException {
        needBelow(what, 6);
        runYear();
        switch (what) {
            case 0:
                return course.end;
            case 1:
                return course.gone(false);
            case 2:
                return course.gone(true);
            case 3:
                return course.hurtsInAll();
            case 4:
                return Integer.bitCount(course.end & jar.slipsSoIn(now.world));
            default:
                return jar.common(course.end, WEEKS - 1) != 0 ? 1 : 0;
        }
    }

    public int touchy() {
        runYear();
        int end = course.end;
        int places = 0;
        copyOrder(0);
        for (int i = 0; i + 1 < jar.slips; i++) {
            change(i, i + 1);
            if (endOfRow(now.law, jar.slips) != end) {
                places++;
            }
            change(i, i + 1);
        }
        return places;
    }

    // ---- all orders ----

    public int ends(int what) throws IllegalArgumentException, IllegalStateException {
        needBelow(what, 3);
        needFewSlips();
        Survey survey = surveyOf(now.law);
        survey.take(jar, tongue, now.world, course);
        switch (what) {
            case 0:
                return survey.unlike();
            case 1:
                return survey.always(jar.slips);
            default:
                return survey.never(jar.slips);
        }
    }

    public int orders(int slip) throws IndexOutOfBoundsException, IllegalStateException {
        needSlip(slip);
        needFewSlips();
        Survey survey = surveyOf(now.law);
        survey.take(jar, tongue, now.world, course);
        return survey.heldInAll(1 << slip);
    }

    public int best() throws IllegalStateException {
        needFewSlips();
        Survey survey = surveyOf(now.law);
        survey.take(jar, tongue, now.world, course);
        int truths = jar.slipsSoIn(now.world);
        int end = survey.bestEnd(truths);
        takeOrder(survey.firstTo(end));
        return Integer.bitCount(end & truths);
    }

    // ---- sets in a week ----

    public boolean fits(int slips, int week) throws IllegalArgumentException {
        needBits(slips, jar.slips);
        needWeek(week);
        return jar.common(slips, week) != 0;
    }

    public int sets(int week, int what) throws IllegalArgumentException {
        needWeek(week);
        needBelow(what, 4);
        subsets.fill(jar, week);
        switch (what) {
            case 0:
                return subsets.fitting();
            case 1:
                return subsets.greatest();
            case 2:
                return subsets.wholes();
            default:
                return subsets.core();
        }
    }

    public int whole(int week, int i) throws IllegalArgumentException {
        needWeek(week);
        subsets.fill(jar, week);
        return subsets.wholeAt(i);
    }

    public int proof(int week) throws IllegalArgumentException {
        needWeek(week);
        subsets.fill(jar, week);
        return subsets.proving(asked);
    }

    public int split(int week, int what) throws IllegalArgumentException {
        needWeek(week);
        needBelow(what, 2);
        int best = 0;
        int fewest = jar.worstLeft(0, week);
        for (int atom = 1; atom < jar.atoms; atom++) {
            int worst = jar.worstLeft(atom, week);
            if (worst < fewest) {
                fewest = worst;
                best = atom;
            }
        }
        return what == 0 ? best : fewest;
    }

    public int likely(int week) throws IllegalArgumentException {
        needWeek(week);
        int best = NONE;
        int most = NONE;
        for (int world = 0; world < 1 << jar.atoms; world++) {
            if ((jar.left[week] >>> world & 1) != 0) {
                int so = Integer.bitCount(jar.slipsSoIn(world));
                if (so > most) {
                    most = so;
                    best = world;
                }
            }
        }
        return best;
    }

    // ---- salts ----

    public int salted(int slips) throws IllegalArgumentException {
        needBits(slips, jar.slips);
        int best = NONE;
        int fewest = SALTS_MOST + 1;
        for (int salts = 0; salts < 1 << jar.salts; salts++) {
            int many = Integer.bitCount(salts);
            if (many < fewest && (endOfRow(now.law, laySalts(salts)) & slips) == slips) {
                fewest = many;
                best = salts;
            }
        }
        return best;
    }

    public int salty(int salts) throws IllegalArgumentException {
        needBits(salts, jar.salts);
        return endOfRow(now.law, laySalts(salts));
    }

    // ---- laws compared, orders drawn ----

    public int compared(int law) throws IllegalArgumentException, IllegalStateException {
        needBelow(law, LAWS);
        needFewSlips();
        Survey survey = surveyOf(law);
        survey.take(jar, tongue, now.world, course);
        return survey.heldInAll(jar.slipsSoIn(now.world));
    }

    public int drawn(int law, int seed, int many) throws IllegalArgumentException {
        needBelow(law, LAWS);
        needSeeds(many);
        int truths = jar.slipsSoIn(now.world);
        int sum = 0;
        for (int i = 0; i < many; i++) {
            drawRow(seed + i);
            sum += Integer.bitCount(endOfRow(law, jar.slips) & truths);
        }
        return sum;
    }

    public int draw(int seed, int i) {
        if (i < 0 || i >= jar.slips) {
            return NONE;
        }
        drawRow(seed);
        return row[i];
    }

    public int century(int slip, int seed, int many)
            throws IndexOutOfBoundsException, IllegalArgumentException {
        needSlip(slip);
        needSeeds(many);
        int holding = 0;
        for (int i = 0; i < many; i++) {
            drawRow(seed + i);
            holding += endOfRow(now.law, jar.slips) >> slip & 1;
        }
        return holding;
    }

    // ---- two schools ----

    public int school(int school, int week) throws IllegalArgumentException {
        needBelow(school, 2);
        needWeek(week);
        runSchool(course, school);
        return course.seatedBehind(week);
    }

    public int right(int school) throws IllegalArgumentException {
        needBelow(school, 2);
        runSchool(course, school);
        for (int week = 0; week < WEEKS; week++) {
            if (jar.common(course.seatedBehind(week), week) == 1L << now.world) {
                return week;
            }
        }
        return NONE;
    }

    public int war(int what) throws IllegalArgumentException {
        needBelow(what, 2);
        runSchool(course, 0);
        runSchool(rival, 1);
        int weeks = 0;
        int first = NONE;
        for (int week = 0; week < WEEKS; week++) {
            int slips = course.seatedBehind(week) | rival.seatedBehind(week);
            if (jar.common(slips, week) == 0) {
                weeks++;
                first = first == NONE ? week : first;
            }
        }
        return what == 0 ? weeks : first;
    }

    // ---- killers, sets, quarrels ----

    public int killer(int slip) throws IndexOutOfBoundsException {
        needSlip(slip);
        runYear();
        if (!course.slain[slip]) {
            return NONE;
        }
        long still = jar.models[slip];
        for (int i = 0; i < jar.seeings; i++) {
            if (jar.weeks[i] <= course.ended[slip]) {
                still &= jar.sights[i];
                if (still == 0) {
                    return i;
                }
            }
        }
        return NONE;
    }

    public long together(int slips, int week) throws IllegalArgumentException {
        needBits(slips, jar.slips);
        needWeek(week);
        return jar.common(slips, week);
    }

    public int following(int slips, int week) throws IllegalArgumentException {
        needBits(slips, jar.slips);
        needWeek(week);
        long worlds = jar.common(slips, week);
        int bits = 0;
        for (int slip = 0; slip < jar.slips; slip++) {
            if ((worlds & ~jar.models[slip]) == 0) {
                bits |= 1 << slip;
            }
        }
        return bits;
    }

    public int eldest(int week) throws IllegalArgumentException {
        needWeek(week);
        runYear();
        int bits = course.seatedBehind(week);
        for (int i = 0; i < jar.slips; i++) {
            int slip = now.order[i];
            if ((bits >> slip & 1) != 0) {
                return slip;
            }
        }
        return NONE;
    }

    public int quarrels(int week) throws IllegalArgumentException {
        needWeek(week);
        int pairs = 0;
        for (int slip = 0; slip < jar.slips; slip++) {
            for (int other = slip + 1; other < jar.slips; other++) {
                if (jar.apart(slip, other, week)) {
                    pairs++;
                }
            }
        }
        return pairs;
    }

    public int peace(int week) throws IllegalArgumentException {
        needWeek(week);
        return subsets.peaceful(jar, week);
    }

    public long worst(int what) throws IllegalArgumentException, IllegalStateException {
        needBelow(what, 2);
        needFewSlips();
        Survey survey = surveyOf(now.law);
        survey.take(jar, tongue, now.world, course);
        return what == 0 ? survey.mostHurts : survey.worstOrder;
    }

    // ---- what is known, plain, asked ----

    public int known(int atom, int week) throws IllegalArgumentException {
        needBelow(atom, jar.atoms);
        needWeek(week);
        long worlds = jar.left[week];
        if (worlds == 0) {
            return NONE;
        }
        long so = worlds & Jar.atomModels(atom);
        if (so == worlds) {
            return 1;
        }
        return so == 0 ? 0 : 2;
    }

    public int plain(int slip) throws IndexOutOfBoundsException, IllegalStateException {
        needSlip(slip);
        if (jar.atoms > PLAIN_ATOMS) {
            refuseState();
        }
        return shortest.lengthOf(jar.atoms, jar.models[slip]);
    }

    public int asks(int week) throws IllegalArgumentException {
        needWeek(week);
        int best = NONE;
        int fewest = ATOMS_MOST + 1;
        for (int atoms = 0; atoms < 1 << jar.atoms; atoms++) {
            int many = Integer.bitCount(atoms);
            if (many < fewest && jar.leftIf(atoms, now.world, week) == 1L << now.world) {
                fewest = many;
                best = atoms;
            }
        }
        return best;
    }

    // ---- graves, the canon, better orders ----

    public int grave(int i) {
        runYear();
        for (int slip = 0; slip < jar.slips; slip++) {
            if (course.ended[slip] < WEEKS && gravesAhead(slip) == i) {
                return slip;
            }
        }
        return NONE;
    }

    public int canon(int k) throws IllegalArgumentException {
        needBelow(k, WEEKS + 1);
        runYear();
        int bits = 0;
        for (int slip = 0; slip < jar.slips; slip++) {
            boolean stays = (course.end >> slip & 1) != 0;
            if (stays && course.weeksOf(slip) >= k && course.hurtsOf(slip) == 0) {
                bits |= 1 << slip;
            }
        }
        return bits;
    }

    public int swap() {
        int truths = jar.slipsSoIn(now.world);
        runYear();
        int most = Integer.bitCount(course.end & truths);
        int best = NONE;
        copyOrder(0);
        for (int i = 0; i < jar.slips; i++) {
            for (int j = i + 1; j < jar.slips; j++) {
                change(i, j);
                int so = Integer.bitCount(endOfRow(now.law, jar.slips) & truths);
                change(i, j);
                if (so > most) {
                    most = so;
                    best = 16 * i + j;
                }
            }
        }
        return best;
    }

    public int humble() {
        int best = (1 << jar.slips) - 1;
        int fewest = jar.slips;
        for (int out = 0; out < 1 << jar.slips; out++) {
            int many = Integer.bitCount(out);
            if (many < fewest && allStayWithout(out)) {
                fewest = many;
                best = out;
            }
        }
        return best;
    }

    public int judge(int old, int slip, int age, int week)
            throws IndexOutOfBoundsException, IllegalArgumentException {
        needSlip(old);
        needSlip(slip);
        needBelow(age, WEEKS + 1);
        needWeek(week);
        tongue.tell(jar, old, slip, age, 0, week, 1);
        return tongue.whoFalls();
    }

    // ---- images and counts ----

    public int image() {
        if (imaged >= images.length) {
            return -1;
        }
        images[imaged].copyFrom(now);
        imaged++;
        return imaged;
    }

    public int restore() {
        if (imaged <= 0 || imaged > images.length) {
            return -1;
        }
        imaged--;
        now.copyFrom(images[imaged]);
        return imaged;
    }

    public int status(int what) {
        return what < 0 || what >= refused.length ? NONE : refused[what];
    }

    public int count(int what) {
        switch (what) {
            case 0:
                return imaged;
            case 1:
                return tape.filled;
            default:
                return NONE;
        }
    }

    // ---- refusals ----

    private void refusePiece() {
        refused[NO_SUCH_PIECE]++;
        throw new IndexOutOfBoundsException("no such slip or seeing");
    }

    private void refuseArgument() {
        refused[NO_SUCH_ARGUMENT]++;
        throw new IllegalArgumentException("no such argument");
    }

    private void refuseState() {
        refused[NO_SUCH_STATE]++;
        throw new IllegalStateException("too many slips or atoms");
    }

    private void needSlip(int slip) {
        if (slip < 0 || slip >= jar.slips) {
            refusePiece();
        }
    }

    private void needBelow(int value, int bound) {
        if (value < 0 || value >= bound) {
            refuseArgument();
        }
    }

    private void needWeek(int week) {
        needBelow(week, WEEKS);
    }

    private void needBits(int bits, int many) {
        needBelow(bits, 1 << many);
    }

    private void needSeeds(int many) {
        if (many < 1 || many > SEEDS_MOST) {
            refuseArgument();
        }
    }

    private void needBytes(int n, int most) {
        if (n < 0 || n > tape.filled || n > most) {
            refuseArgument();
        }
    }

    private void needFewSlips() {
        if (jar.slips > ALL_ORDERS_SLIPS) {
            refuseState();
        }
    }

    // ---- rows and runs ----

    /** The i-th SLIP of an ORDER told as digits to the base 16. */
    private int digit(long slips, int i) {
        return (int) (slips >>> (4 * (jar.slips - 1 - i))) & 15;
    }

    private void takeOrder(long slips) {
        for (int i = 0; i < jar.slips; i++) {
            now.order[i] = digit(slips, i);
        }
    }

    /** Lays the ORDER into the row, behind so many places. */
    private void copyOrder(int behind) {
        for (int i = 0; i < jar.slips && behind + i < row.length; i++) {
            row[behind + i] = now.order[i];
        }
    }

    private void change(int i, int j) {
        int slip = row[i];
        row[i] = row[j];
        row[j] = slip;
    }

    private void drawRow(int seed) {
        for (int i = 0; i < jar.slips; i++) {
            row[i] = i;
        }
        int lot = seed;
        for (int place = jar.slips - 1; place >= 1; place--) {
            lot = lot * 1103515245 + 12345;
            change(place, (lot >>> 16 & 0x7fff) % (place + 1));
        }
    }

    private void runYear() {
        course.begin(jar, tongue, now.law, now.world);
        course.play(now.order, jar.slips, 0);
    }

    private int endOfRow(int law, int length) {
        course.begin(jar, tongue, law, now.world);
        course.play(row, length, 0);
        return course.end;
    }

    /** Lays SALTS and the ORDER behind them into the row: its length. */
    private int laySalts(int salts) {
        int ahead = 0;
        for (int salt = 0; salt < jar.salts; salt++) {
            if ((salts >> salt & 1) != 0) {
                row[ahead] = SLIPS_MOST + salt;
                ahead++;
            }
        }
        copyOrder(ahead);
        return ahead + jar.slips;
    }

    private void runSchool(Course by, int school) {
        for (int i = 0; i < jar.slips; i++) {
            row[i] = (i & 1) == school ? now.order[i] : NONE;
        }
        by.begin(jar, tongue, now.law, now.world);
        by.play(row, jar.slips, 0);
    }

    private Survey surveyOf(int law) {
        return surveys[law >= 0 && law < surveys.length ? law : 0];
    }

    private void forgetSurveys() {
        for (int i = 0; i < surveys.length; i++) {
            surveys[i].fresh = false;
        }
    }

    /** How many GRAVES come ahead of that of a SLIP that is gone. */
    private int gravesAhead(int slip) {
        int ahead = 0;
        int weeks = course.weeksOf(slip);
        for (int other = 0; other < jar.slips; other++) {
            if (course.ended[other] < WEEKS) {
                int more = course.weeksOf(other) - weeks;
                if (more > 0 || more == 0 && other < slip) {
                    ahead++;
                }
            }
        }
        return ahead;
    }

    /** Where all stay none has fallen: so no LAW counts, only who can be held, and beside whom. */
    private boolean allStayWithout(int out) {
        int week = 0;
        int ahead = 0;
        for (int i = 0; i < jar.slips; i++) {
            int slip = now.order[i];
            if ((out >> slip & 1) == 0) {
                if ((ahead & jar.foesOf(slip, week)) != 0) {
                    return false;
                }
                ahead |= 1 << slip;
                week++;
            }
        }
        return (ahead & jar.dead[WEEKS - 1]) == 0;
    }

    // ---- classes inside ----

    /** What an IMAGE keeps. */
    private static final class Setting {
        final int[] order = new int[SLIPS_MOST];
        int law = 0;
        int world = 0;

        void begin(Jar jar) {
            for (int i = 0; i < order.length; i++) {
                order[i] = i;
            }
            law = jar.law;
            world = jar.world;
        }

        void copyFrom(Setting other) {
            for (int i = 0; i < order.length; i++) {
                order[i] = other.order[i];
            }
            law = other.law;
            world = other.world;
        }
    }

    /** A JAR that has been read, and what follows from its text alone. */
    private static final class Jar {
        int atoms;
        long all;
        int slips;
        int seeings;
        int salts;
        int world;
        int law;
        /** Of SLIPS, and of SALTS from 12 on: MODELS, and how many. */
        final long[] models = new long[PIECES_MOST];
        final int[] sizes = new int[PIECES_MOST];
        final long[] sights = new long[SEEINGS_MOST];
        final int[] weeks = new int[SEEINGS_MOST];
        final long[] left = new long[WEEKS];
        /** By WEEKS: pieces (bits) that are so in no WORLD that is LEFT. */
        final int[] dead = new int[WEEKS];
        /** By WEEKS in which a piece may be drawn, and by pieces: those (bits) it falls out with. */
        private final int[] foes = new int[PIECES_MOST * PIECES_MOST];

        Jar() {
            clear();
            settle();
        }

        void clear() {
            tellAtoms(ATOMS_UNTOLD);
            for (int piece = 0; piece < PIECES_MOST; piece++) {
                models[piece] = 0;
            }
            slips = 0;
            seeings = 0;
            salts = 0;
            world = 0;
            law = 0;
        }

        void tellAtoms(int many) {
            atoms = many;
            all = many >= ATOMS_MOST ? -1L : (1L << (1 << many)) - 1;
        }

        void settle() {
            for (int piece = 0; piece < PIECES_MOST; piece++) {
                sizes[piece] = Long.bitCount(models[piece]);
            }
            for (int week = 0; week < WEEKS; week++) {
                left[week] = leftBy(week);
                boolean news = week == 0 || left[week] != left[week - 1];
                dead[week] = news ? deadIn(week) : dead[week - 1];
                for (int piece = 0; piece < PIECES_MOST && week < PIECES_MOST; piece++) {
                    int at = week * PIECES_MOST + piece;
                    foes[at] = news ? foesIn(piece, week) : foes[at - PIECES_MOST];
                }
            }
        }

        private long leftBy(int week) {
            long worlds = all;
            for (int i = 0; i < seeings; i++) {
                if (weeks[i] <= week) {
                    worlds &= sights[i];
                }
            }
            return worlds;
        }

        private int deadIn(int week) {
            int bits = 0;
            for (int piece = 0; piece < PIECES_MOST; piece++) {
                if ((models[piece] & left[week]) == 0) {
                    bits |= 1 << piece;
                }
            }
            return bits;
        }

        private int foesIn(int piece, int week) {
            int bits = 0;
            for (int other = 0; other < PIECES_MOST; other++) {
                if (apart(piece, other, week)) {
                    bits |= 1 << other;
                }
            }
            return bits;
        }

        /** The first WEEK in which a piece is so in no WORLD that is LEFT; 52 without. */
        int deathWeek(int piece) {
            for (int week = 0; week < WEEKS; week++) {
                if ((dead[week] >> piece & 1) != 0) {
                    return week;
                }
            }
            return WEEKS;
        }

        /** With whom a piece falls out that is drawn in a WEEK. */
        int foesOf(int piece, int week) {
            int at = week * PIECES_MOST + piece;
            return at < 0 || at >= foes.length ? 0 : foes[at];
        }

        static long atomModels(int atom) {
            switch (atom) {
                case 0:
                    return 0xAAAAAAAAAAAAAAAAL;
                case 1:
                    return 0xCCCCCCCCCCCCCCCCL;
                case 2:
                    return 0xF0F0F0F0F0F0F0F0L;
                case 3:
                    return 0xFF00FF00FF00FF00L;
                case 4:
                    return 0xFFFF0000FFFF0000L;
                default:
                    return 0xFFFFFFFF00000000L;
            }
        }

        boolean soIn(int piece, int world) {
            return (models[piece] >>> world & 1) != 0;
        }

        int slipsSoIn(int world) {
            int bits = 0;
            for (int slip = 0; slip < slips; slip++) {
                if (soIn(slip, world)) {
                    bits |= 1 << slip;
                }
            }
            return bits;
        }

        boolean apart(int piece, int other, int week) {
            return (models[piece] & models[other] & left[week]) == 0;
        }

        /** WORLDS that are LEFT and have all SLIPS of a set. */
        long common(int bits, int week) {
            long worlds = left[week];
            for (int slip = 0; slip < slips; slip++) {
                if ((bits >> slip & 1) != 0) {
                    worlds &= models[slip];
                }
            }
            return worlds;
        }

        int worstLeft(int atom, int week) {
            long so = atomModels(atom);
            return Math.max(Long.bitCount(left[week] & so), Long.bitCount(left[week] & ~so));
        }

        /** WORLDS that are LEFT if ATOMS of a set are told as they are in a WORLD. */
        long leftIf(int bits, int world, int week) {
            long worlds = left[week];
            for (int atom = 0; atom < atoms; atom++) {
                if ((bits >> atom & 1) != 0) {
                    long so = atomModels(atom);
                    worlds &= (world >> atom & 1) != 0 ? so : ~so;
                }
            }
            return worlds;
        }
    }

    /**
     * The TAPE, and the text that was last taken from it: its words, numbers and signs, one after
     * the other; behind a fault there are none.
     */
    private static final class Tape {
        private static final int ENDED = 0;
        private static final int WORD = 1;
        private static final int NUMBER = 2;
        private static final int SIGN = 3;
        private static final int FAULTY = 4;
        /** Stands for all numbers that are too great for any place. */
        private static final int TOO_GREAT = 1000000;

        private final byte[] text = new byte[TAPE_MOST];
        int filled = 0;
        private int length = 0;
        private int kind = ENDED;
        private int start = 0;
        private int behind = 0;
        private int value = 0;
        private int open = 0;
        int fault = 0;
        int place = NONE;

        void put(int number) {
            for (int shift = 24; shift >= 0 && filled < text.length; shift -= 8) {
                text[filled] = (byte) (number >>> shift);
                filled++;
            }
        }

        /** Empties the TAPE; its first bytes stay in their row as the text to be read. */
        void begin(int n) {
            filled = 0;
            length = Math.max(0, Math.min(n, text.length));
            kind = ENDED;
            behind = 0;
            open = 0;
            fault = 0;
            place = NONE;
            step();
        }

        void step() {
            if (kind == FAULTY) {
                return;
            }
            int at = behind;
            while (at < length && text[at] == ' ') {
                at++;
            }
            start = at;
            value = at < length ? text[at] & 255 : 0;
            if (at >= length) {
                kind = ENDED;
            } else if (value >= 'a' && value <= 'z') {
                kind = WORD;
                while (at < length && text[at] >= 'a' && text[at] <= 'z') {
                    at++;
                }
            } else if (value >= '0' && value <= '9') {
                kind = NUMBER;
                value = 0;
                while (at < length && text[at] >= '0' && text[at] <= '9') {
                    value = Math.min(value * 10 + text[at] - '0', TOO_GREAT);
                    at++;
                }
            } else {
                kind = SIGN;
                at++;
            }
            behind = at;
        }

        boolean goesOn() {
            return kind != ENDED && kind != FAULTY;
        }

        boolean isWord(String word) {
            if (kind != WORD || behind - start != word.length()) {
                return false;
            }
            for (int i = 0; i < word.length() && start + i < length; i++) {
                if ((text[start + i] & 255) != word.charAt(i)) {
                    return false;
                }
            }
            return true;
        }

        boolean isSign(char sign) {
            return kind == SIGN && value == sign;
        }

        boolean isNumber() {
            return kind == NUMBER;
        }

        /** The number of the letter if a word of one letter stands here; NONE without. */
        int letter() {
            return kind == WORD && behind - start == 1 ? value - 'a' : NONE;
        }

        void fail(int by) {
            if (kind != FAULTY) {
                kind = FAULTY;
                fault = by;
                place = start;
            }
        }

        void takeSign(char sign) {
            if (isSign(sign)) {
                step();
            } else {
                fail(FAULT_STAND);
            }
        }

        void takeWord(String word) {
            if (isWord(word)) {
                step();
            } else {
                fail(FAULT_STAND);
            }
        }

        int takeNumber(int least, int most) {
            int number = least;
            if (kind != NUMBER) {
                fail(FAULT_STAND);
            } else if (value < least || value > most) {
                fail(FAULT_NUMBER);
            } else {
                number = value;
                step();
            }
            return number;
        }

        /** Steps over what opens here, if it is not one too many. */
        boolean opens() {
            if (open >= OPEN_MOST) {
                fail(FAULT_MANY);
                return false;
            }
            open++;
            step();
            return true;
        }

        void shuts() {
            open--;
        }
    }

    /** Reads sentences; what opens in them is counted, so that no more than six levels stand open. */
    private static final class Sentence {
        /** A sentence and nothing more. */
        static long readAlone(Tape tape, Jar jar) {
            long models = readEither(tape, jar);
            if (tape.goesOn()) {
                tape.fail(FAULT_STAND);
            }
            return models;
        }

        private static long readEither(Tape tape, Jar jar) {
            long models = readEach(tape, jar);
            for (int i = 0; i < TAPE_MOST && tape.isWord("or"); i++) {
                tape.step();
                models |= readEach(tape, jar);
            }
            return models;
        }

        private static long readEach(Tape tape, Jar jar) {
            long models = readPart(tape, jar);
            for (int i = 0; i < TAPE_MOST && tape.isWord("and"); i++) {
                tape.step();
                models &= readPart(tape, jar);
            }
            return models;
        }

        private static long readPart(Tape tape, Jar jar) {
            if (tape.isWord("not")) {
                return readNot(tape, jar);
            }
            if (tape.isWord("if")) {
                return readIf(tape, jar);
            }
            if (tape.isSign('[')) {
                return readBrackets(tape, jar);
            }
            return readAtom(tape, jar);
        }

        private static long readNot(Tape tape, Jar jar) {
            if (!tape.opens()) {
                return 0;
            }
            long models = ~readPart(tape, jar) & jar.all;
            tape.shuts();
            return models;
        }

        private static long readIf(Tape tape, Jar jar) {
            if (!tape.opens()) {
                return 0;
            }
            long models = ~readPart(tape, jar) & jar.all;
            tape.takeWord("then");
            models |= readPart(tape, jar);
            tape.shuts();
            return models;
        }

        private static long readBrackets(Tape tape, Jar jar) {
            if (!tape.opens()) {
                return 0;
            }
            long models = readEither(tape, jar);
            tape.takeSign(']');
            tape.shuts();
            return models;
        }

        private static long readAtom(Tape tape, Jar jar) {
            int atom = tape.letter();
            if (atom < 0 || atom >= jar.atoms) {
                tape.fail(FAULT_STAND);
                return 0;
            }
            tape.step();
            return Jar.atomModels(atom) & jar.all;
        }
    }

    /** Reads the text of a JAR. */
    private static final class JarReader {
        static void read(Tape tape, Jar jar) {
            jar.clear();
            for (int clauses = 0; clauses <= CLAUSES_MOST && tape.goesOn(); clauses++) {
                readClause(tape, jar, clauses >= CLAUSES_MOST, clauses > 0);
                tape.takeSign(';');
            }
            jar.settle();
        }

        private static void readClause(Tape tape, Jar jar, boolean tooMany, boolean late) {
            if (tape.isWord("slip")) {
                readSlip(tape, jar, tooMany);
            } else if (tape.isWord("see")) {
                readSeeing(tape, jar, tooMany);
            } else if (tape.isWord("salt")) {
                readSalt(tape, jar, tooMany);
            } else if (tape.isWord("world")) {
                readWorld(tape, jar, tooMany);
            } else if (tape.isWord("law")) {
                readLaw(tape, jar, tooMany);
            } else if (tape.isWord("atoms")) {
                readAtoms(tape, jar, tooMany, late);
            } else {
                tape.fail(FAULT_STAND);
            }
        }

        /** Steps over the word of a clause, if it is not one too many. */
        private static boolean begins(Tape tape, boolean tooMany) {
            if (tooMany) {
                tape.fail(FAULT_MANY);
            } else {
                tape.step();
            }
            return !tooMany;
        }

        private static void readAtoms(Tape tape, Jar jar, boolean tooMany, boolean late) {
            if (late && !tooMany) {
                tape.fail(FAULT_ATOMS);
            } else if (begins(tape, tooMany)) {
                jar.tellAtoms(tape.takeNumber(1, ATOMS_MOST));
            }
        }

        private static void readWorld(Tape tape, Jar jar, boolean tooMany) {
            if (begins(tape, tooMany)) {
                jar.world = tape.takeNumber(0, (1 << jar.atoms) - 1);
            }
        }

        private static void readLaw(Tape tape, Jar jar, boolean tooMany) {
            if (begins(tape, tooMany)) {
                jar.law = tape.takeNumber(0, LAWS - 1);
            }
        }

        private static void readSlip(Tape tape, Jar jar, boolean tooMany) {
            if (begins(tape, tooMany || jar.slips >= SLIPS_MOST)) {
                jar.models[jar.slips] = Sentence.readEither(tape, jar);
                jar.slips++;
            }
        }

        private static void readSalt(Tape tape, Jar jar, boolean tooMany) {
            if (begins(tape, tooMany || jar.salts >= SALTS_MOST)) {
                jar.models[SLIPS_MOST + jar.salts] = Sentence.readEither(tape, jar);
                jar.salts++;
            }
        }

        private static void readSeeing(Tape tape, Jar jar, boolean tooMany) {
            if (begins(tape, tooMany || jar.seeings >= SEEINGS_MOST)) {
                jar.weeks[jar.seeings] = tape.takeNumber(0, WEEKS - 1);
                jar.sights[jar.seeings] = Sentence.readEither(tape, jar);
                jar.seeings++;
            }
        }
    }

    /** A TONGUE that has been read: its rules in a row, what is reckoned with ahead of its sign. */
    private static final class Tongue {
        /** Codes: numbers stand for themselves, quantities, signs and who falls from here on. */
        static final int QUANTITY = 1000;
        static final int SIGNS = 2000;
        static final int WHO = 3000;

        static final int PLUS = 2000;
        static final int MINUS = 2001;
        static final int TIMES = 2002;
        static final int LESS = 2003;
        static final int MORE = 2004;
        static final int SAME = 2005;
        static final int AND = 2006;
        static final int OR = 2007;
        static final int NOT = 2008;

        int rules = 0;
        private final int[] code = new int[LINE_MOST + 1];
        private int size = 0;
        private final int[] values = new int[10];
        private final int[] stack = new int[64];

        void clear() {
            rules = 0;
            size = 0;
        }

        void add(int what) {
            if (size < code.length) {
                code[size] = what;
                size++;
            }
        }

        /** Tells of a new piece that meets an old one, held for a while, among so many held. */
        void tell(Jar jar, int old, int fresh, int age, int hurts, int week, int held) {
            values[0] = age;
            values[1] = hurts;
            values[2] = jar.sizes[old];
            values[3] = jar.sizes[fresh];
            values[4] = old;
            values[5] = fresh;
            values[6] = week;
            values[7] = held;
            values[8] = Long.bitCount(jar.left[week]);
            values[9] = Long.bitCount(jar.models[old] & jar.models[fresh]);
        }

        /** Who falls of those last told of. */
        int whoFalls() {
            int top = 0;
            for (int i = 0; i < size; i++) {
                int what = code[i];
                if (what < SIGNS && top < stack.length) {
                    stack[top] = valueOf(what);
                    top++;
                } else if (what == NOT && top > 0) {
                    stack[top - 1] ^= 1;
                } else if (what < WHO && top > 1) {
                    top--;
                    stack[top - 1] = reckon(what, stack[top - 1], stack[top]);
                } else if (what >= WHO && top > 0) {
                    top--;
                    if (stack[top] != 0) {
                        return what - WHO;
                    }
                }
            }
            return BOTH;
        }

        private int valueOf(int what) {
            int quantity = what - QUANTITY;
            return quantity >= 0 && quantity < values.length ? values[quantity] : what;
        }

        private static int reckon(int sign, int first, int second) {
            switch (sign) {
                case PLUS:
                    return first + second;
                case MINUS:
                    return first - second;
                case TIMES:
                    return first * second;
                case LESS:
                    return first < second ? 1 : 0;
                case MORE:
                    return first > second ? 1 : 0;
                case SAME:
                    return first == second ? 1 : 0;
                case AND:
                    return first & second;
                default:
                    return first | second;
            }
        }
    }

    /** Reads the text of a TONGUE; as in sentences no more than six levels stand open. */
    private static final class TongueReader {
        static void read(Tape tape, Tongue tongue) {
            tongue.clear();
            for (int i = 0; i < LINE_MOST && tape.goesOn(); i++) {
                int who = whoHere(tape);
                if (who == NONE) {
                    tape.fail(FAULT_STAND);
                } else if (tongue.rules >= RULES_MOST) {
                    tape.fail(FAULT_MANY);
                } else {
                    tape.step();
                    readEither(tape, tongue);
                    tape.takeSign(';');
                    tongue.add(Tongue.WHO + who);
                    tongue.rules++;
                }
            }
        }

        private static int whoHere(Tape tape) {
            if (tape.isWord("both")) {
                return BOTH;
            }
            if (tape.isWord("new")) {
                return NEW;
            }
            return tape.isWord("old") ? OLD : NONE;
        }

        private static void readEither(Tape tape, Tongue tongue) {
            readEach(tape, tongue);
            for (int i = 0; i < LINE_MOST && tape.isWord("or"); i++) {
                tape.step();
                readEach(tape, tongue);
                tongue.add(Tongue.OR);
            }
        }

        private static void readEach(Tape tape, Tongue tongue) {
            readPart(tape, tongue);
            for (int i = 0; i < LINE_MOST && tape.isWord("and"); i++) {
                tape.step();
                readPart(tape, tongue);
                tongue.add(Tongue.AND);
            }
        }

        private static void readPart(Tape tape, Tongue tongue) {
            if (tape.isWord("not")) {
                if (tape.opens()) {
                    readPart(tape, tongue);
                    tape.shuts();
                    tongue.add(Tongue.NOT);
                }
            } else if (tape.isSign('[')) {
                if (tape.opens()) {
                    readEither(tape, tongue);
                    tape.takeSign(']');
                    tape.shuts();
                }
            } else {
                readRelation(tape, tongue);
            }
        }

        private static void readRelation(Tape tape, Tongue tongue) {
            readSum(tape, tongue);
            int sign = Tongue.SAME;
            if (tape.isSign('<')) {
                sign = Tongue.LESS;
            } else if (tape.isSign('>')) {
                sign = Tongue.MORE;
            } else if (!tape.isSign('=')) {
                tape.fail(FAULT_STAND);
            }
            tape.step();
            readSum(tape, tongue);
            tongue.add(sign);
        }

        private static void readSum(Tape tape, Tongue tongue) {
            readProduct(tape, tongue);
            for (int i = 0; i < LINE_MOST && (tape.isSign('+') || tape.isSign('-')); i++) {
                int sign = tape.isSign('+') ? Tongue.PLUS : Tongue.MINUS;
                tape.step();
                readProduct(tape, tongue);
                tongue.add(sign);
            }
        }

        private static void readProduct(Tape tape, Tongue tongue) {
            readValue(tape, tongue);
            for (int i = 0; i < LINE_MOST && tape.isSign('*'); i++) {
                tape.step();
                readValue(tape, tongue);
                tongue.add(Tongue.TIMES);
            }
        }

        private static void readValue(Tape tape, Tongue tongue) {
            if (tape.isSign('(')) {
                if (tape.opens()) {
                    readSum(tape, tongue);
                    tape.takeSign(')');
                    tape.shuts();
                }
            } else if (tape.isNumber()) {
                tongue.add(tape.takeNumber(0, NUMBER_MOST));
            } else {
                int quantity = quantityHere(tape);
                if (quantity == NONE) {
                    tape.fail(FAULT_STAND);
                }
                tape.step();
                tongue.add(Tongue.QUANTITY + quantity);
            }
        }

        /** The place of the quantity in the row that the TONGUE is told. */
        private static int quantityHere(Tape tape) {
            if (tape.isWord("age")) {
                return 0;
            }
            if (tape.isWord("hurts")) {
                return 1;
            }
            if (tape.isWord("olds")) {
                return 2;
            }
            if (tape.isWord("news")) {
                return 3;
            }
            if (tape.isWord("oldn")) {
                return 4;
            }
            if (tape.isWord("newn")) {
                return 5;
            }
            if (tape.isWord("week")) {
                return 6;
            }
            if (tape.isWord("held")) {
                return 7;
            }
            if (tape.isWord("left")) {
                return 8;
            }
            return tape.isWord("shared") ? 9 : NONE;
        }
    }

    /**
     * A year: what is drawn on which Monday, and what becomes of it. The world that IS does not
     * change in a year, nor does what is seen: so a piece that is held hurts in each WEEK or in none,
     * and dies in a WEEK that is known ahead; only Mondays of draws have to be walked through.
     */
    private static final class Course {
        private Jar jar;
        private Tongue tongue;
        private int law = 0;
        private int world = 0;
        /** Of pieces: the WEEK of the draw (NONE: not drawn), and of the end (52: none). */
        final int[] begun = new int[PIECES_MOST];
        final int[] ended = new int[PIECES_MOST];
        final int[] foe = new int[PIECES_MOST];
        final boolean[] slain = new boolean[PIECES_MOST];
        /** SLIPS held at the end. */
        int end = 0;
        private final int[] chairs = new int[PIECES_MOST];
        private int seated = 0;
        /** Those on the chairs, as bits. */
        private int heldNow = 0;

        Course(Jar jar, Tongue tongue) {
            this.jar = jar;
            this.tongue = tongue;
        }

        /** By what all is played from now on. */
        void begin(Jar jar, Tongue tongue, int law, int world) {
            this.jar = jar;
            this.tongue = tongue;
            this.law = law;
            this.world = world;
        }

        /**
         * The row tells what is drawn on which Monday; NONE: nothing. Played is from a Monday on:
         * ahead of it the row is as it was when it was played last, and so is what came of it.
         */
        void play(int[] row, int length, int from) {
            goBack(row, from);
            for (int week = from; week >= 0 && week < length && week < row.length; week++) {
                bury(week);
                int piece = row[week];
                if (piece >= 0 && piece < begun.length && lives(piece, week) && stands(piece, week)) {
                    seat(piece);
                }
            }
            bury(WEEKS - 1);
            end = heldNow & (1 << SLIPS_MOST) - 1;
        }

        /** Seats those who were held ahead of a Monday, as if nothing had come since. */
        private void goBack(int[] row, int from) {
            seated = 0;
            heldNow = 0;
            for (int piece = 0; piece < begun.length; piece++) {
                if (begun[piece] >= from) {
                    begun[piece] = NONE;
                }
            }
            for (int week = 0; week < from && week < row.length; week++) {
                int piece = row[week];
                if (piece >= 0 && piece < begun.length && ended[piece] >= from) {
                    seat(piece);
                }
            }
        }

        private void seat(int piece) {
            ended[piece] = WEEKS;
            foe[piece] = NONE;
            slain[piece] = false;
            if (seated < chairs.length) {
                chairs[seated] = piece;
                seated++;
                heldNow |= 1 << piece;
            }
        }

        /** Takes from their chairs those that have died by a WEEK. */
        private void bury(int week) {
            if ((heldNow & jar.dead[week]) == 0) {
                return;
            }
            int stay = 0;
            for (int i = 0; i < seated; i++) {
                int piece = chairs[i];
                if ((jar.dead[week] >> piece & 1) != 0) {
                    ended[piece] = jar.deathWeek(piece);
                    slain[piece] = true;
                    heldNow &= ~(1 << piece);
                } else {
                    chairs[stay] = piece;
                    stay++;
                }
            }
            seated = stay;
        }

        /** Draws a piece; whether it is not KILLED at once. */
        private boolean lives(int piece, int week) {
            boolean dies = (jar.dead[week] >> piece & 1) != 0;
            begun[piece] = week;
            ended[piece] = dies ? week : WEEKS;
            foe[piece] = NONE;
            slain[piece] = dies;
            return !dies;
        }

        /** Lets a new piece meet all that are held; whether it has not fallen. */
        private boolean stands(int piece, int week) {
            int foes = heldNow & jar.foesOf(piece, week);
            int many = foes == 0 ? 0 : seated;
            int stay = 0;
            boolean standing = true;
            for (int i = 0; i < many; i++) {
                int old = chairs[i];
                int falls = standing && (foes >> old & 1) != 0 ? whoFalls(old, piece, week) : NONE;
                if (falls == BOTH || falls == NEW) {
                    fall(piece, old, week);
                    standing = false;
                }
                if (falls == BOTH || falls == OLD) {
                    fall(old, piece, week);
                    heldNow &= ~(1 << old);
                    seated--;
                } else {
                    chairs[stay] = old;
                    stay++;
                }
            }
            return standing;
        }

        private void fall(int piece, int by, int week) {
            ended[piece] = week;
            foe[piece] = by;
            slain[piece] = false;
        }

        private int whoFalls(int old, int fresh, int week) {
            switch (law) {
                case 0:
                    return BOTH;
                case 1:
                    return NEW;
                case 2:
                    return OLD;
                case 3:
                    return jar.sizes[old] < jar.sizes[fresh] ? OLD : NEW;
                default:
                    int age = week - begun[old];
                    int hurts = jar.soIn(old, world) ? 0 : age;
                    tongue.tell(jar, old, fresh, age, hurts, week, seated);
                    return tongue.whoFalls();
            }
        }

        int weeksOf(int piece) {
            return begun[piece] == NONE ? 0 : ended[piece] - begun[piece];
        }

        int hurtsOf(int piece) {
            return jar.soIn(piece, world) ? 0 : weeksOf(piece);
        }

        int hurtsInAll() {
            int sum = 0;
            for (int slip = 0; slip < jar.slips; slip++) {
                sum += hurtsOf(slip);
            }
            return sum;
        }

        /** How many SLIPS were KILLED, or how many fell. */
        int gone(boolean killed) {
            int many = 0;
            for (int slip = 0; slip < jar.slips; slip++) {
                if (begun[slip] != NONE && ended[slip] < WEEKS && slain[slip] == killed) {
                    many++;
                }
            }
            return many;
        }

        int seatedBehind(int week) {
            int bits = 0;
            for (int slip = 0; slip < jar.slips; slip++) {
                if (begun[slip] != NONE && begun[slip] <= week && week < ended[slip]) {
                    bits |= 1 << slip;
                }
            }
            return bits;
        }
    }

    /** ENDS by all ORDERS and a LAW. They stand until the world that IS or a text changes. */
    private static final class Survey {
        private final int law;
        boolean fresh = false;
        private int world = 0;
        /** Of each END: how many ORDERS lead to it, and the first of them. */
        private final int[] counts = new int[1 << ALL_ORDERS_SLIPS];
        private final long[] firsts = new long[1 << ALL_ORDERS_SLIPS];
        int mostHurts = NONE;
        long worstOrder = 0;
        private final int[] row = new int[ALL_ORDERS_SLIPS];

        Survey(int law) {
            this.law = law;
        }

        void take(Jar jar, Tongue tongue, int world, Course course) {
            if (fresh && this.world == world) {
                return;
            }
            fresh = true;
            this.world = world;
            mostHurts = NONE;
            for (int set = 0; set < counts.length; set++) {
                counts[set] = 0;
            }
            int slips = Math.min(jar.slips, row.length);
            for (int i = 0; i < slips; i++) {
                row[i] = i;
            }
            course.begin(jar, tongue, law, world);
            int from = 0;
            for (int i = 0; i < ALL_ORDERS && from != NONE; i++) {
                course.play(row, slips, from);
                note(course.end, course.hurtsInAll(), slips);
                from = advance(slips);
            }
        }

        private void note(int end, int hurts, int slips) {
            if (end >= 0 && end < counts.length) {
                if (counts[end] == 0) {
                    firsts[end] = digits(slips);
                }
                counts[end]++;
            }
            if (hurts > mostHurts) {
                mostHurts = hurts;
                worstOrder = digits(slips);
            }
        }

        private long digits(int slips) {
            long order = 0;
            for (int i = 0; i < slips; i++) {
                order = order << 4 | row[i];
            }
            return order;
        }

        /** Lays the row that comes next, SLIP by SLIP: the first place that changes; NONE: no more. */
        private int advance(int slips) {
            int low = slips - 2;
            while (low >= 0 && row[low] > row[low + 1]) {
                low--;
            }
            if (low < 0) {
                return NONE;
            }
            int high = slips - 1;
            while (high > low && row[high] < row[low]) {
                high--;
            }
            change(low, high);
            for (int i = low + 1, j = slips - 1; i < j; i++, j--) {
                change(i, j);
            }
            return low;
        }

        private void change(int i, int j) {
            int slip = row[i];
            row[i] = row[j];
            row[j] = slip;
        }

        int unlike() {
            int many = 0;
            for (int set = 0; set < counts.length; set++) {
                if (counts[set] > 0) {
                    many++;
                }
            }
            return many;
        }

        int always(int slips) {
            int bits = (1 << slips) - 1;
            for (int set = 0; set < counts.length; set++) {
                if (counts[set] > 0) {
                    bits &= set;
                }
            }
            return bits;
        }

        int never(int slips) {
            int bits = (1 << slips) - 1;
            for (int set = 0; set < counts.length; set++) {
                if (counts[set] > 0) {
                    bits &= ~set;
                }
            }
            return bits;
        }

        /** How many of told SLIPS are held in the END, over all ORDERS. */
        int heldInAll(int slips) {
            int sum = 0;
            for (int set = 0; set < counts.length; set++) {
                sum += counts[set] * Integer.bitCount(set & slips);
            }
            return sum;
        }

        /** The END with most of told SLIPS, of these that to which the first ORDER leads. */
        int bestEnd(int slips) {
            int best = 0;
            int most = NONE;
            for (int set = 0; set < counts.length; set++) {
                int so = Integer.bitCount(set & slips);
                if (counts[set] > 0 && (so > most || so == most && firsts[set] < firsts[best])) {
                    most = so;
                    best = set;
                }
            }
            return best;
        }

        long firstTo(int end) {
            return end < 0 || end >= firsts.length ? 0 : firsts[end];
        }
    }

    /** All sets of SLIPS in a WEEK, the least bits first. */
    private static final class Subsets {
        /** Of each set: WORLDS that are LEFT and have all of it. */
        private final long[] worlds = new long[1 << SLIPS_MOST];
        private int slips = 0;
        private int sets = 1;
        private final int[] friends = new int[SLIPS_MOST];

        void fill(Jar jar, int week) {
            slips = jar.slips;
            sets = Math.min(1 << slips, worlds.length);
            worlds[0] = jar.left[week];
            for (int slip = 0; slip < slips; slip++) {
                int bit = 1 << slip;
                for (int set = 0; set < bit && bit + set < worlds.length; set++) {
                    worlds[bit + set] = worlds[set] & jar.models[slip];
                }
            }
        }

        int fitting() {
            int many = 0;
            for (int set = 0; set < sets; set++) {
                if (worlds[set] != 0) {
                    many++;
                }
            }
            return many;
        }

        int greatest() {
            int best = NONE;
            int most = NONE;
            for (int set = 0; set < sets; set++) {
                if (worlds[set] != 0 && Integer.bitCount(set) > most) {
                    most = Integer.bitCount(set);
                    best = set;
                }
            }
            return best;
        }

        int core() {
            int best = NONE;
            int fewest = SLIPS_MOST + 1;
            for (int set = 0; set < sets; set++) {
                if (worlds[set] == 0 && Integer.bitCount(set) < fewest) {
                    fewest = Integer.bitCount(set);
                    best = set;
                }
            }
            return best;
        }

        int proving(long asked) {
            int best = NONE;
            int fewest = SLIPS_MOST + 1;
            for (int set = 0; set < sets; set++) {
                boolean proves = worlds[set] != 0 && (worlds[set] & ~asked) == 0;
                if (proves && Integer.bitCount(set) < fewest) {
                    fewest = Integer.bitCount(set);
                    best = set;
                }
            }
            return best;
        }

        int wholes() {
            int many = 0;
            for (int set = 0; set < sets; set++) {
                if (isWhole(set)) {
                    many++;
                }
            }
            return many;
        }

        int wholeAt(int i) {
            int many = 0;
            for (int set = 0; set < sets; set++) {
                if (isWhole(set)) {
                    if (many == i) {
                        return set;
                    }
                    many++;
                }
            }
            return NONE;
        }

        private boolean isWhole(int set) {
            if (worlds[set] == 0) {
                return false;
            }
            for (int slip = 0; slip < slips; slip++) {
                int more = set | 1 << slip;
                if (more != set && more < worlds.length && worlds[more] != 0) {
                    return false;
                }
            }
            return true;
        }

        /** Of sets in which each SLIP is friends with all, itself among them, that of the most. */
        int peaceful(Jar jar, int week) {
            for (int slip = 0; slip < jar.slips; slip++) {
                friends[slip] = 0;
                for (int other = 0; other < jar.slips; other++) {
                    if (!jar.apart(slip, other, week)) {
                        friends[slip] |= 1 << other;
                    }
                }
            }
            int best = 0;
            int most = 0;
            for (int set = 1; set < 1 << jar.slips; set++) {
                if (Integer.bitCount(set) > most && allFriends(set, jar.slips)) {
                    most = Integer.bitCount(set);
                    best = set;
                }
            }
            return best;
        }

        private boolean allFriends(int set, int many) {
            for (int slip = 0; slip < many; slip++) {
                if ((set >> slip & 1) != 0 && (set & ~friends[slip]) != 0) {
                    return false;
                }
            }
            return true;
        }
    }

    /** Lengths of shortest sentences, for all sets of MODELS over few ATOMS. */
    private static final class Shortest {
        private static final int LONGEST = 64;
        /** For how many ATOMS the rows stand now. */
        private int atoms = 0;
        private final int[] lengths = new int[256];
        /** MODELS in the order in which they were found, and from where on those of a length are. */
        private final int[] found = new int[256];
        private final int[] from = new int[LONGEST + 2];
        private int many = 0;

        int lengthOf(int atoms, long models) {
            if (this.atoms != atoms) {
                build(atoms);
            }
            return models < 0 || models >= lengths.length ? 0 : lengths[(int) models];
        }

        private void build(int atoms) {
            this.atoms = atoms;
            many = 0;
            for (int i = 0; i < lengths.length; i++) {
                lengths[i] = 0;
            }
            int all = (1 << (1 << atoms)) - 1;
            from[1] = 0;
            for (int atom = 0; atom < atoms; atom++) {
                find((int) Jar.atomModels(atom) & all, 1);
            }
            for (int length = 2; length <= LONGEST && many <= all; length++) {
                from[length] = many;
                negate(length, all);
                for (int first = 1; 2 * first <= length - 1; first++) {
                    join(first, length - 1 - first, length);
                }
            }
        }

        private void find(int models, int length) {
            boolean within = models >= 0 && models < lengths.length && many < found.length;
            if (within && lengths[models] == 0) {
                lengths[models] = length;
                found[many] = models;
                many++;
            }
        }

        private void negate(int length, int all) {
            for (int i = from[length - 1]; i < from[length]; i++) {
                find(~found[i] & all, length);
            }
        }

        private void join(int first, int second, int length) {
            for (int i = from[first]; i < from[first + 1]; i++) {
                for (int j = from[second]; j < from[second + 1]; j++) {
                    find(found[i] & found[j], length);
                    find(found[i] | found[j], length);
                }
            }
        }
    }
}
