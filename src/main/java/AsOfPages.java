/**
 * An archive of pages as they were. The document (shared/DOC.md) says what each call answers; the words in
 * capitals in comments here are its terms.
 */
public final class AsOfPages {
    public static final int NONE = -1;

    private static final int ABSENT = -2;
    private static final int FAULTY = -4;
    private static final int REFUSED = -5;
    private static final int BARE = -6;

    private static final int LAST_DAY = 365;
    private static final int MOST_PAGES = 8;
    private static final int MOST_BODIES = 10;
    private static final int MOST_TOLD_SHOTS = 40;
    private static final int MOST_SHOTS = 60;
    private static final int MOST_PARTS = 4;
    private static final int MOST_ACTS = 20;
    private static final int MOST_CLICKS = 6;
    private static final int MOST_BYTES = 1200;
    private static final int MOST_IMAGES = 3;
    private static final int HIGHEST_LAW = 2;
    private static final int HIGHEST_CARRY = 1;
    private static final int PROVED = 2;

    private static final int IS_SHOT = 0;
    private static final int IS_SAME = 1;
    private static final int IS_MOVE = 2;
    private static final int IS_GONE = 3;

    private static final int WITH_BODY = 0;
    private static final int GONE = 1;
    private static final int BROKEN = 2;
    private static final int LOST = 3;
    private static final int ROUND = 4;
    private static final int NESTED = 5;

    private final byte[] tape;
    private int tapeLength;
    private final Reader reader;
    private Archive now;
    private Archive draft;
    private final Archive[] images;
    private final Index index;
    private boolean stale;
    private final Index trial;
    private final Walk walk;
    private final View view;
    private final View other;
    private final Surfer surfer;
    private final Teller teller;
    private final int[] changeDays;

    public AsOfPages() {
        tape = new byte[MOST_BYTES];
        reader = new Reader();
        now = new Archive();
        draft = new Archive();
        images = new Archive[MOST_IMAGES];
        for (int k = 0; k < MOST_IMAGES; k++) {
            images[k] = new Archive();
        }
        index = new Index();
        stale = true;
        trial = new Index();
        walk = new Walk();
        view = new View();
        other = new View();
        surfer = new Surfer();
        teller = new Teller();
        changeDays = new int[LAST_DAY];
    }

    // The tape and its archive.

    public int feed(int a, int b, int c, int d, int e) {
        if (tapeLength + 20 > MOST_BYTES) {
            return NONE;
        }
        putFour(a);
        putFour(b);
        putFour(c);
        putFour(d);
        putFour(e);
        return tapeLength;
    }

    public int end(int n) {
        if (n < 0 || n > tapeLength) {
            return NONE;
        }
        tapeLength = n;
        return n;
    }

    public int archive() {
        draft.clear();
        boolean sound = reader.read(tape, tapeLength, draft);
        tapeLength = 0;
        if (!sound) {
            return FAULTY;
        }
        Archive former = now;
        now = draft;
        draft = former;
        stale = true;
        return now.lines;
    }

    public int fault(int what) {
        switch (what) {
            case 0: return reader.faultKind;
            case 1: return reader.faultPlace;
            default: return NONE;
        }
    }

    public int count(int what) {
        switch (what) {
            case 0: return now.law;
            case 1: return now.carry;
            case 2: return now.pageCount;
            case 3: return now.bodyCount;
            case 4: return now.shotCount;
            case 5: return now.actCount;
            case 6: return now.lines;
            case 7: return tapeLength;
            case 8: return teller.length;
            default: return NONE;
        }
    }

    // Shots and bodies.

    public int shot(int shot, int what) {
        if (noShot(shot)) {
            return ABSENT;
        }
        switch (what) {
            case 0: return now.shotPage[shot];
            case 1: return now.shotDay[shot];
            case 2: return now.shotKind[shot];
            case 3: return fresh().bodyOf[shot];
            case 4: return now.shotKind[shot] == IS_MOVE ? now.shotOf[shot] : NONE;
            default: return ABSENT;
        }
    }

    public int body(int body, int what) {
        if (body < 0 || body >= now.bodyCount) {
            return ABSENT;
        }
        switch (what) {
            case 0: return now.weight[body];
            case 1: return now.partCount[body];
            case 2: return now.linkCount[body];
            case 3: return now.least[body];
            default: break;
        }
        if (what >= 10 && what < 10 + MOST_PARTS) {
            return what - 10 < now.partCount[body] ? now.part(body, what - 10) : NONE;
        }
        if (what >= 20 && what < 20 + MOST_PARTS) {
            return what - 20 < now.linkCount[body] ? now.link(body, what - 20) : NONE;
        }
        return ABSENT;
    }

    public int shots(int page) {
        if (noPage(page)) {
            return ABSENT;
        }
        return fresh().howMany(page);
    }

    public int byDay(int page, int k) {
        if (noPage(page) || k < 0) {
            return ABSENT;
        }
        Index x = fresh();
        return k < x.howMany(page) ? x.order[x.starts[page] + k] : NONE;
    }

    public int nearest(int page, int day) {
        if (noPage(page) || noDay(day)) {
            return ABSENT;
        }
        return fresh().closest(page, day);
    }

    public int follow(int page, int day, int what) {
        if (noPage(page) || noDay(day)) {
            return ABSENT;
        }
        walk.trace(fresh(), page, day);
        switch (what) {
            case 0: return walk.last;
            case 1: return walk.length;
            case 2: return walk.state;
            default: return ABSENT;
        }
    }

    public int followed(int page, int day, int i) {
        if (noPage(page) || noDay(day) || i < 0) {
            return ABSENT;
        }
        walk.trace(fresh(), page, day);
        return i < walk.length ? walk.path[i] : NONE;
    }

    // Views on one day.

    public int view(int page, int day) {
        return see(page, day) ? view.size : ABSENT;
    }

    public int element(int page, int day, int i, int what) {
        if (i < 0 || what < 0 || what > 5 || !see(page, day)) {
            return ABSENT;
        }
        if (i >= view.size) {
            return NONE;
        }
        switch (what) {
            case 0: return view.pageOf[i];
            case 1: return view.lastOf[i];
            case 2: return view.stateOf[i];
            case 3: return view.depthOf[i];
            case 4: return view.insideOf[i];
            default: return view.weightOf(i);
        }
    }

    public int whole(int page, int day) {
        if (!see(page, day)) {
            return ABSENT;
        }
        return view.isWhole() ? 1 : 0;
    }

    public int judged(int page, int day) {
        return see(page, day) ? view.all.verdict() : ABSENT;
    }

    public int common(int page, int day, int what) {
        if (what < 0 || what > 3 || !see(page, day)) {
            return ABSENT;
        }
        Spans all = view.all;
        if (what < 2 ? all.sureFirst > all.sureLast : all.mayFirst > all.mayLast) {
            return NONE;
        }
        switch (what) {
            case 0: return all.sureFirst;
            case 1: return all.sureLast;
            case 2: return all.mayFirst;
            default: return all.mayLast;
        }
    }

    public int clash(int page, int day) {
        return see(page, day) ? view.clashingPair() : ABSENT;
    }

    public int culprit(int page, int day) {
        return see(page, day) ? view.leastCulprit() : ABSENT;
    }

    public int spread(int page, int day) {
        return see(page, day) ? view.daysApart() : ABSENT;
    }

    public int farthest(int page, int day) {
        return see(page, day) ? view.farthestFrom(day) : ABSENT;
    }

    public int heavy(int page, int day) {
        return see(page, day) ? view.weightOnce() : ABSENT;
    }

    public int drift(int page, int day) {
        return see(page, day) ? view.driftFrom(day) : ABSENT;
    }

    public int both(int page, int with, int day) {
        if (noPage(page) || noPage(with) || noDay(day)) {
            return ABSENT;
        }
        return judgeBoth(page, with, day);
    }

    public int by(int page, int day, int law, int carry) {
        if (noPage(page) || noDay(day) || noRule(law, carry)) {
            return ABSENT;
        }
        trial.build(now, law, carry, NONE);
        view.build(trial, page, day);
        return view.all.verdict();
    }

    public int tell(int page, int day) {
        if (!see(page, day)) {
            return ABSENT;
        }
        teller.write(view);
        return teller.length;
    }

    public int octet(int i) {
        return i >= 0 && i < teller.length ? teller.bytes[i] : NONE;
    }

    // Views on all days: they stay as they are but on days on which some NEAREST turns to another SHOT.

    public int days(int page, int judged) {
        if (noPage(page) || noVerdict(judged)) {
            return ABSENT;
        }
        Index x = fresh();
        int total = 0;
        int verdict = 0;
        for (int day = 0; day <= LAST_DAY; day++) {
            if (x.turns[day]) {
                view.build(x, page, day);
                verdict = view.all.verdict();
            }
            if (verdict == judged) {
                total++;
            }
        }
        return total;
    }

    public int firstDay(int page, int judged) {
        if (noPage(page) || noVerdict(judged)) {
            return ABSENT;
        }
        Index x = fresh();
        for (int day = 0; day <= LAST_DAY; day++) {
            if (x.turns[day]) {
                view.build(x, page, day);
                if (view.all.verdict() == judged) {
                    return day;
                }
            }
        }
        return NONE;
    }

    public int changes(int page) {
        return noPage(page) ? ABSENT : findChanges(page);
    }

    public int change(int page, int k) {
        if (noPage(page) || k < 0) {
            return ABSENT;
        }
        return k < findChanges(page) ? changeDays[k] : NONE;
    }

    public int bothOn(int page, int with, int judged) {
        if (noPage(page) || noPage(with) || noVerdict(judged)) {
            return ABSENT;
        }
        Index x = fresh();
        for (int day = 0; day <= LAST_DAY; day++) {
            if (x.turns[day] && judgeBoth(page, with, day) == judged) {
                return day;
            }
        }
        return NONE;
    }

    public int bestDay(int page) {
        if (noPage(page)) {
            return ABSENT;
        }
        Index x = fresh();
        int best = NONE;
        int bestVerdict = NONE;
        int bestDrift = 0;
        boolean complete = false;
        for (int day = 0; day <= LAST_DAY; day++) {
            if (x.turns[day]) {
                view.build(x, page, day);
                complete = view.isWhole();
            }
            if (!complete || view.all.verdict() < bestVerdict) {
                continue;
            }
            int off = view.driftFrom(day);
            if (view.all.verdict() > bestVerdict || off < bestDrift) {
                best = day;
                bestVerdict = view.all.verdict();
                bestDrift = off;
            }
        }
        return best;
    }

    // Runs, and what is stored.

    public int run(int shot, int what) {
        if (noShot(shot) || what < 0 || what > 4) {
            return ABSENT;
        }
        Index x = fresh();
        if (x.stateOf[shot] == BROKEN) {
            return NONE;
        }
        switch (what) {
            case 0: return x.sureFirst[shot];
            case 1: return x.sureLast[shot];
            case 2: return x.mayFirst[shot];
            case 3: return x.mayLast[shot];
            default: return x.runLength[shot];
        }
    }

    public int runs(int page) {
        return noPage(page) ? ABSENT : fresh().bodyRuns(page);
    }

    public int stored(int what) {
        if (noArchive() || what < 0 || what > 1) {
            return ABSENT;
        }
        Index x = fresh();
        int kept = 0;
        int total = 0;
        for (int s = 0; s < now.shotCount; s++) {
            int held = x.bodyOf[s];
            if (held == NONE) {
                continue;
            }
            int bit = 1 << now.least[held];
            if (what == 0 || (kept & bit) == 0) {
                total += now.weight[held];
            }
            kept |= bit;
        }
        return total;
    }

    public int unused() {
        if (noArchive()) {
            return ABSENT;
        }
        Index x = fresh();
        int bits = (1 << now.bodyCount) - 1;
        for (int s = 0; s < now.shotCount; s++) {
            if (x.bodyOf[s] != NONE) {
                bits &= ~(1 << x.bodyOf[s]);
            }
        }
        return bits;
    }

    public long spare() {
        if (noArchive()) {
            return ABSENT;
        }
        Index x = fresh();
        long bits = 0L;
        for (int s = 0; s < now.shotCount; s++) {
            trial.build(now, now.law, now.carry, s);
            if (sameOutcomes(x)) {
                bits |= 1L << s;
            }
        }
        return bits;
    }

    public int blank(int page) {
        if (noPage(page)) {
            return ABSENT;
        }
        Index x = fresh();
        int found = NONE;
        int most = 0;
        for (int day = 0; day <= LAST_DAY && x.howMany(page) > 0; day++) {
            int off = x.daysOff(page, day);
            if (off > most) {
                most = off;
                found = day;
            }
        }
        return found;
    }

    // Clicks.

    public int click(int page, int day, int i, int what) {
        if (noPage(page) || noDay(day) || i < 0 || what < 0 || what > 1) {
            return ABSENT;
        }
        Index x = fresh();
        walk.trace(x, page, day);
        int held = walk.bodyFound();
        if (held == NONE || i >= now.linkCount[held]) {
            return NONE;
        }
        return what == 0 ? now.link(held, i) : walk.onwardDay(day);
    }

    public int reach(int page, int day, int n) {
        if (noPage(page) || noDay(day) || n < 0 || n > MOST_CLICKS) {
            return ABSENT;
        }
        surfer.surf(fresh(), page, day);
        int bits = 0;
        for (int p = 0; p < now.pageCount; p++) {
            if (surfer.fewest[p] <= n) {
                bits |= 1 << p;
            }
        }
        return bits;
    }

    public int clicks(int page, int day, int to) {
        if (noPage(page) || noDay(day) || noPage(to)) {
            return ABSENT;
        }
        surfer.surf(fresh(), page, day);
        return surfer.fewest[to] <= MOST_CLICKS ? surfer.fewest[to] : NONE;
    }

    public int linking(int page, int day) {
        if (noPage(page) || noDay(day)) {
            return ABSENT;
        }
        Index x = fresh();
        int bits = 0;
        for (int p = 0; p < now.pageCount; p++) {
            walk.trace(x, p, day);
            int held = walk.bodyFound();
            if (held != NONE && now.linksTo(held, page)) {
                bits |= 1 << p;
            }
        }
        return bits;
    }

    public int dead(int day) {
        if (noArchive() || noDay(day)) {
            return ABSENT;
        }
        int bits = 0;
        for (int p = 0; p < now.pageCount; p++) {
            bits |= deadFrom(p, day);
        }
        return bits;
    }

    // Acts and images.

    public int add(int page, int day, int kind, int of) {
        if (noPage(page) || noDay(day) || kind < IS_SHOT || kind > IS_GONE) {
            return ABSENT;
        }
        if (kind == IS_SHOT && (of < 0 || of >= now.bodyCount) || kind == IS_MOVE && noPage(of)) {
            return ABSENT;
        }
        if (now.shotCount >= MOST_SHOTS || now.actCount >= MOST_ACTS || now.hasShotOn(page, day)) {
            return REFUSED;
        }
        now.actAdd(page, day, kind, of);
        stale = true;
        return now.shotCount - 1;
    }

    public int drop(int shot) {
        if (noShot(shot)) {
            return ABSENT;
        }
        if (now.actCount >= MOST_ACTS) {
            return REFUSED;
        }
        now.actDrop(shot);
        stale = true;
        return now.shotCount;
    }

    public int rule(int law, int carry) {
        if (noArchive() || noRule(law, carry)) {
            return ABSENT;
        }
        if (now.actCount >= MOST_ACTS || law == now.law && carry == now.carry) {
            return REFUSED;
        }
        now.actRule(law, carry);
        stale = true;
        return 0;
    }

    public int image(int k) {
        if (k < 0 || k >= MOST_IMAGES || noArchive()) {
            return ABSENT;
        }
        images[k].copyFrom(now);
        return 0;
    }

    public int back(int k) {
        if (k < 0 || k >= MOST_IMAGES) {
            return ABSENT;
        }
        if (images[k].lines == 0) {
            return BARE;
        }
        now.copyFrom(images[k]);
        stale = true;
        return 0;
    }

    public int undo() {
        if (noArchive()) {
            return ABSENT;
        }
        if (now.actCount == 0) {
            return REFUSED;
        }
        now.takeBack();
        stale = true;
        return now.actCount;
    }

    public int anew() {
        if (noArchive()) {
            return ABSENT;
        }
        int were = now.actCount;
        for (int i = 0; i < were; i++) {
            now.takeBack();
        }
        stale = true;
        return were;
    }

    // What is there.

    private boolean noArchive() {
        return now.lines == 0;
    }

    private boolean noPage(int page) {
        return page < 0 || page >= now.pageCount;
    }

    private boolean noShot(int shot) {
        return shot < 0 || shot >= now.shotCount;
    }

    private boolean noDay(int day) {
        return day < 0 || day > LAST_DAY;
    }

    private boolean noVerdict(int verdict) {
        return verdict < 0 || verdict > PROVED;
    }

    private boolean noRule(int law, int carry) {
        return law < 0 || law > HIGHEST_LAW || carry < 0 || carry > HIGHEST_CARRY;
    }

    // Helpers of the calls above.

    private void putFour(int number) {
        for (int shift = 24; shift >= 0 && tapeLength < MOST_BYTES; shift -= 8) {
            tape[tapeLength] = (byte) (number >> shift);
            tapeLength++;
        }
    }

    private Index fresh() {
        if (stale) {
            index.build(now, now.law, now.carry, NONE);
            stale = false;
        }
        return index;
    }

    /** Puts the VIEW together; false if there is no such PAGE or DAY. */
    private boolean see(int page, int day) {
        if (noPage(page) || noDay(day)) {
            return false;
        }
        view.build(fresh(), page, day);
        return true;
    }

    private int judgeBoth(int page, int with, int day) {
        Index x = fresh();
        view.build(x, page, day);
        other.build(x, with, day);
        view.all.narrow(other.all);
        return view.all.verdict();
    }

    private int findChanges(int page) {
        Index x = fresh();
        View before = other;
        View after = view;
        before.build(x, page, 0);
        int found = 0;
        for (int day = 1; day <= LAST_DAY; day++) {
            if (!x.turns[day]) {
                continue;
            }
            after.build(x, page, day);
            if (after.isUnlike(before)) {
                changeDays[found] = day;
                found++;
            }
            View swapped = before;
            before = after;
            after = swapped;
        }
        return found;
    }

    /** Whether by the trial index all PAGES come to the same on all DAYS; only DAYS of turns can tell. */
    private boolean sameOutcomes(Index x) {
        for (int day = 0; day <= LAST_DAY; day++) {
            if (!x.turns[day] && !trial.turns[day]) {
                continue;
            }
            for (int page = 0; page < now.pageCount; page++) {
                walk.trace(x, page, day);
                int due = walk.outcome();
                walk.trace(trial, page, day);
                if (walk.outcome() != due) {
                    return false;
                }
            }
        }
        return true;
    }

    private int deadFrom(int page, int day) {
        Index x = fresh();
        walk.trace(x, page, day);
        int held = walk.bodyFound();
        if (held == NONE) {
            return 0;
        }
        int onward = walk.onwardDay(day);
        int bits = 0;
        for (int i = 0; i < now.linkCount[held]; i++) {
            int target = now.link(held, i);
            walk.trace(x, target, onward);
            if (walk.state != WITH_BODY) {
                bits |= 1 << target;
            }
        }
        return bits;
    }

    /** What a text tells, with the acts since: all that an image keeps. */
    private static final class Archive {
        private static final int ACT_ADD = 0;
        private static final int ACT_DROP = 1;
        private static final int ACT_RULE = 2;
        private static final int ACT_SIZE = 6;

        int law;
        int carry;
        int lines;
        int pageCount;
        int bodyCount;
        int shotCount;
        int actCount;
        final int[] weight;
        final int[] partCount;
        final int[] linkCount;
        final int[] parts;
        final int[] links;
        final int[] least;
        final int[] shotPage;
        final int[] shotDay;
        final int[] shotKind;
        final int[] shotOf;
        /** Of each act what it takes to take it back. */
        final int[] acts;

        Archive() {
            weight = new int[MOST_BODIES];
            partCount = new int[MOST_BODIES];
            linkCount = new int[MOST_BODIES];
            parts = new int[MOST_BODIES * MOST_PARTS];
            links = new int[MOST_BODIES * MOST_PARTS];
            least = new int[MOST_BODIES];
            shotPage = new int[MOST_SHOTS];
            shotDay = new int[MOST_SHOTS];
            shotKind = new int[MOST_SHOTS];
            shotOf = new int[MOST_SHOTS];
            acts = new int[MOST_ACTS * ACT_SIZE];
        }

        void clear() {
            law = 0;
            carry = 0;
            lines = 0;
            pageCount = 0;
            bodyCount = 0;
            shotCount = 0;
            actCount = 0;
        }

        void copyFrom(Archive from) {
            law = from.law;
            carry = from.carry;
            lines = from.lines;
            pageCount = from.pageCount;
            bodyCount = from.bodyCount;
            shotCount = from.shotCount;
            actCount = from.actCount;
            copyRow(from.weight, weight);
            copyRow(from.partCount, partCount);
            copyRow(from.linkCount, linkCount);
            copyRow(from.parts, parts);
            copyRow(from.links, links);
            copyRow(from.least, least);
            copyRow(from.shotPage, shotPage);
            copyRow(from.shotDay, shotDay);
            copyRow(from.shotKind, shotKind);
            copyRow(from.shotOf, shotOf);
            copyRow(from.acts, acts);
        }

        private static void copyRow(int[] from, int[] to) {
            System.arraycopy(from, 0, to, 0, Math.min(from.length, to.length));
        }

        int part(int body, int i) {
            return parts[body * MOST_PARTS + i];
        }

        int link(int body, int i) {
            return links[body * MOST_PARTS + i];
        }

        boolean linksTo(int body, int page) {
            for (int i = 0; i < linkCount[body]; i++) {
                if (link(body, i) == page) {
                    return true;
                }
            }
            return false;
        }

        boolean hasShotOn(int page, int day) {
            for (int s = 0; s < shotCount; s++) {
                if (shotPage[s] == page && shotDay[s] == day) {
                    return true;
                }
            }
            return false;
        }

        void findLeastEqual() {
            for (int b = 0; b < bodyCount; b++) {
                int first = 0;
                while (first < b && !areEqual(first, b)) {
                    first++;
                }
                least[b] = first;
            }
        }

        private boolean areEqual(int a, int b) {
            if (weight[a] != weight[b] || partCount[a] != partCount[b] || linkCount[a] != linkCount[b]) {
                return false;
            }
            for (int i = 0; i < partCount[a]; i++) {
                if (part(a, i) != part(b, i)) {
                    return false;
                }
            }
            for (int i = 0; i < linkCount[a]; i++) {
                if (link(a, i) != link(b, i)) {
                    return false;
                }
            }
            return true;
        }

        void putShot(int at, int page, int day, int kind, int of) {
            for (int s = shotCount; s > at; s--) {
                moveShot(s - 1, s);
            }
            shotPage[at] = page;
            shotDay[at] = day;
            shotKind[at] = kind;
            shotOf[at] = of;
            shotCount++;
        }

        private void removeShot(int at) {
            shotCount--;
            for (int s = at; s < shotCount; s++) {
                moveShot(s + 1, s);
            }
        }

        private void moveShot(int from, int to) {
            shotPage[to] = shotPage[from];
            shotDay[to] = shotDay[from];
            shotKind[to] = shotKind[from];
            shotOf[to] = shotOf[from];
        }

        void actAdd(int page, int day, int kind, int of) {
            noteAct(ACT_ADD, shotCount);
            putShot(shotCount, page, day, kind, of);
        }

        void actDrop(int shot) {
            int at = noteAct(ACT_DROP, shot);
            acts[at + 2] = shotPage[shot];
            acts[at + 3] = shotDay[shot];
            acts[at + 4] = shotKind[shot];
            acts[at + 5] = shotOf[shot];
            removeShot(shot);
        }

        void actRule(int newLaw, int newCarry) {
            int at = noteAct(ACT_RULE, 0);
            acts[at + 2] = law;
            acts[at + 3] = carry;
            law = newLaw;
            carry = newCarry;
        }

        private int noteAct(int kind, int shot) {
            int at = actCount * ACT_SIZE;
            acts[at] = kind;
            acts[at + 1] = shot;
            actCount++;
            return at;
        }

        void takeBack() {
            if (actCount == 0) {
                return;
            }
            actCount--;
            int at = actCount * ACT_SIZE;
            switch (acts[at]) {
                case ACT_ADD:
                    removeShot(acts[at + 1]);
                    break;
                case ACT_DROP:
                    putShot(acts[at + 1], acts[at + 2], acts[at + 3], acts[at + 4], acts[at + 5]);
                    break;
                default:
                    law = acts[at + 2];
                    carry = acts[at + 3];
                    break;
            }
        }
    }

    /** Reads a TEXT into an Archive, up to the first FAULT. */
    private static final class Reader {
        private static final int AT_END = 0;
        private static final int WORD = 1;
        private static final int NUMBER = 2;
        private static final int STOP = 3;
        private static final int STRANGE = 4;

        private static final int MISPLACED = 1;
        private static final int NOT_AS_SAID = 2;
        private static final int TOO_MANY = 3;

        private static final int LONGEST_NAME = 6;
        /** Above every bound of a number, and far from wrapping round. */
        private static final int HUGE = 100000;

        int faultKind;
        int faultPlace;
        private byte[] bytes;
        private int length;
        private Archive into;
        private int at;
        private int token;
        private int tokenStart;
        private int value;
        /** Of PAGES, then of BODIES. */
        private final int[] nameStart;
        private final int[] nameLength;

        Reader() {
            faultPlace = NONE;
            nameStart = new int[MOST_PAGES + MOST_BODIES];
            nameLength = new int[MOST_PAGES + MOST_BODIES];
        }

        boolean read(byte[] from, int size, Archive target) {
            faultKind = 0;
            faultPlace = NONE;
            bytes = from;
            length = Math.min(size, from.length);
            into = target;
            at = 0;
            step();
            if (token == AT_END) {
                return true;
            }
            boolean sound = readArchive();
            for (int i = 0; i < length && sound && token != AT_END; i++) {
                if (isWord("page")) {
                    sound = readPage();
                } else if (isWord("body")) {
                    sound = readBody();
                } else {
                    sound = readShot(shotWord());
                }
            }
            into.findLeastEqual();
            return sound;
        }

        private boolean readArchive() {
            if (!takeWord("archive") || !takeWord("law") || !takeNumber(0, HIGHEST_LAW)) {
                return false;
            }
            into.law = value;
            step();
            if (!takeWord("carry") || !takeNumber(0, HIGHEST_CARRY)) {
                return false;
            }
            into.carry = value;
            step();
            return takeStop();
        }

        private int shotWord() {
            if (isWord("shot")) {
                return IS_SHOT;
            }
            if (isWord("same")) {
                return IS_SAME;
            }
            if (isWord("move")) {
                return IS_MOVE;
            }
            return isWord("gone") ? IS_GONE : NONE;
        }

        private boolean readPage() {
            if (into.pageCount >= MOST_PAGES) {
                return refuse(TOO_MANY);
            }
            step();
            if (!takeNewName(into.pageCount)) {
                return false;
            }
            into.pageCount++;
            return takeStop();
        }

        private boolean readBody() {
            int body = into.bodyCount;
            if (body >= MOST_BODIES) {
                return refuse(TOO_MANY);
            }
            step();
            if (!takeNewName(MOST_PAGES + body)) {
                return false;
            }
            into.bodyCount++;
            if (!takeWord("weight") || !takeNumber(1, 999)) {
                return false;
            }
            into.weight[body] = value;
            step();
            return takePages("part", into.parts, into.partCount, body)
                && takePages("link", into.links, into.linkCount, body)
                && takeStop();
        }

        private boolean takePages(String word, int[] row, int[] counts, int body) {
            int taken = 0;
            while (taken < MOST_PARTS && isWord(word)) {
                step();
                int page = takeTold(0, into.pageCount);
                if (page == NONE) {
                    return false;
                }
                row[body * MOST_PARTS + taken] = page;
                taken++;
            }
            counts[body] = taken;
            return taken < MOST_PARTS || !isWord(word) || refuse(TOO_MANY);
        }

        private boolean readShot(int kind) {
            if (kind == NONE) {
                return refuse(MISPLACED);
            }
            if (into.shotCount >= MOST_TOLD_SHOTS) {
                return refuse(TOO_MANY);
            }
            step();
            int page = takeTold(0, into.pageCount);
            if (page == NONE || !takeWord("at") || !takeNumber(0, LAST_DAY)) {
                return false;
            }
            int day = value;
            if (into.hasShotOn(page, day)) {
                return refuse(NOT_AS_SAID);
            }
            step();
            int of = NONE;
            if (kind == IS_SHOT || kind == IS_MOVE) {
                of = takeOf(kind);
                if (of == NONE) {
                    return false;
                }
            }
            into.putShot(into.shotCount, page, day, kind, of);
            return takeStop();
        }

        private int takeOf(int kind) {
            if (!takeWord(kind == IS_SHOT ? "is" : "to")) {
                return NONE;
            }
            return kind == IS_SHOT ? takeTold(MOST_PAGES, into.bodyCount) : takeTold(0, into.pageCount);
        }

        private boolean takeWord(String word) {
            if (!isWord(word)) {
                return refuse(MISPLACED);
            }
            step();
            return true;
        }

        /** Stays at the number, for what else may be wrong with it. */
        private boolean takeNumber(int lowest, int highest) {
            if (token != NUMBER) {
                return refuse(MISPLACED);
            }
            return value >= lowest && value <= highest || refuse(NOT_AS_SAID);
        }

        private boolean takeStop() {
            if (token != STOP) {
                return refuse(MISPLACED);
            }
            into.lines++;
            step();
            return true;
        }

        private boolean takeNewName(int slot) {
            if (token != WORD) {
                return refuse(MISPLACED);
            }
            if (at - tokenStart > LONGEST_NAME || isReserved() || isTold()) {
                return refuse(NOT_AS_SAID);
            }
            nameStart[slot] = tokenStart;
            nameLength[slot] = at - tokenStart;
            step();
            return true;
        }

        private boolean isTold() {
            return findName(0, into.pageCount) != NONE || findName(MOST_PAGES, into.bodyCount) != NONE;
        }

        /** The number of a PAGE or BODY told ahead; NONE behind a FAULT. */
        private int takeTold(int firstSlot, int slots) {
            if (token != WORD) {
                refuse(MISPLACED);
                return NONE;
            }
            int found = findName(firstSlot, slots);
            if (found == NONE) {
                refuse(NOT_AS_SAID);
                return NONE;
            }
            step();
            return found;
        }

        private int findName(int firstSlot, int slots) {
            for (int i = 0; i < slots; i++) {
                if (isName(firstSlot + i)) {
                    return i;
                }
            }
            return NONE;
        }

        private boolean isName(int slot) {
            int size = at - tokenStart;
            if (nameLength[slot] != size) {
                return false;
            }
            for (int i = 0; i < size; i++) {
                if (bytes[nameStart[slot] + i] != bytes[tokenStart + i]) {
                    return false;
                }
            }
            return true;
        }

        private boolean isReserved() {
            return isWord("archive") || isWord("page") || isWord("body") || isWord("shot") || isWord("same")
                || isWord("move") || isWord("gone") || isWord("part") || isWord("link");
        }

        private boolean isWord(String word) {
            if (token != WORD || at - tokenStart != word.length()) {
                return false;
            }
            for (int i = 0; i < word.length(); i++) {
                if (bytes[tokenStart + i] != word.charAt(i)) {
                    return false;
                }
            }
            return true;
        }

        private boolean refuse(int kind) {
            faultKind = kind;
            faultPlace = tokenStart;
            return false;
        }

        private void step() {
            while (at < length && (bytes[at] == ' ' || bytes[at] == '\n')) {
                at++;
            }
            tokenStart = at;
            if (at >= length) {
                token = AT_END;
            } else if (isLetter()) {
                token = WORD;
                while (at < length && isLetter()) {
                    at++;
                }
            } else if (isDigit()) {
                token = NUMBER;
                stepNumber();
            } else {
                token = bytes[at] == ';' ? STOP : STRANGE;
                at++;
            }
        }

        private void stepNumber() {
            value = 0;
            while (at < length && isDigit()) {
                value = Math.min(value * 10 + bytes[at] - '0', HUGE);
                at++;
            }
        }

        private boolean isLetter() {
            return bytes[at] >= 'a' && bytes[at] <= 'z';
        }

        private boolean isDigit() {
            return bytes[at] >= '0' && bytes[at] <= '9';
        }
    }

    /** What follows from an Archive by a LAW: SHOTS by DAYS, their BODIES, RUNS, and when each is NEAREST. */
    private static final class Index {
        private static final int MOVE_MARK = 16;
        private static final int GONE_MARK = 32;

        Archive of;
        int carry;
        private int law;
        /** SHOTS by PAGES, of a PAGE by DAYS. */
        final int[] order;
        final int[] starts;
        final int[] bodyOf;
        /** The STATE of what ENDS there; of a move nothing. */
        final int[] stateOf;
        /** Equal for SHOTS that are like one another; NONE is like none. */
        private final int[] mark;
        /** The first DAY to which a SHOT is NEAREST: it is up to the next one's. */
        private final int[] since;
        /** DAYS from which on some NEAREST is another; 0, too. */
        final boolean[] turns;
        final int[] sureFirst;
        final int[] sureLast;
        final int[] mayFirst;
        final int[] mayLast;
        final int[] runLength;

        Index() {
            order = new int[MOST_SHOTS];
            starts = new int[MOST_PAGES + 1];
            bodyOf = new int[MOST_SHOTS];
            stateOf = new int[MOST_SHOTS];
            mark = new int[MOST_SHOTS];
            since = new int[MOST_SHOTS];
            turns = new boolean[LAST_DAY + 1];
            sureFirst = new int[MOST_SHOTS];
            sureLast = new int[MOST_SHOTS];
            mayFirst = new int[MOST_SHOTS];
            mayLast = new int[MOST_SHOTS];
            runLength = new int[MOST_SHOTS];
        }

        /** As if the SHOT 'without' were not there (NONE: with all). */
        void build(Archive archive, int byLaw, int byCarry, int without) {
            of = archive;
            law = byLaw;
            carry = byCarry;
            sortShots(without);
            for (int day = 1; day <= LAST_DAY; day++) {
                turns[day] = false;
            }
            turns[0] = true;
            for (int page = 0; page < MOST_PAGES; page++) {
                findBodies(page);
                findTurns(page);
                findRuns(page);
            }
        }

        private void sortShots(int without) {
            int sorted = 0;
            for (int s = 0; s < of.shotCount; s++) {
                if (s == without) {
                    continue;
                }
                int k = sorted;
                while (k > 0 && isBehind(order[k - 1], s)) {
                    order[k] = order[k - 1];
                    k--;
                }
                order[k] = s;
                sorted++;
            }
            int k = 0;
            for (int page = 0; page <= MOST_PAGES; page++) {
                while (k < sorted && of.shotPage[order[k]] < page) {
                    k++;
                }
                starts[page] = k;
            }
        }

        private boolean isBehind(int s, int t) {
            if (of.shotPage[s] != of.shotPage[t]) {
                return of.shotPage[s] > of.shotPage[t];
            }
            return of.shotDay[s] > of.shotDay[t];
        }

        private void findBodies(int page) {
            int latest = NONE;
            for (int k = starts[page]; k < starts[page + 1]; k++) {
                int s = order[k];
                int kind = of.shotKind[s];
                if (kind != IS_SAME) {
                    latest = kind == IS_SHOT ? of.shotOf[s] : NONE;
                }
                bodyOf[s] = latest;
                if (latest != NONE) {
                    stateOf[s] = WITH_BODY;
                    mark[s] = of.least[latest];
                } else if (kind == IS_SAME) {
                    stateOf[s] = BROKEN;
                    mark[s] = NONE;
                } else {
                    stateOf[s] = GONE;
                    mark[s] = kind == IS_MOVE ? MOVE_MARK + of.shotOf[s] : GONE_MARK;
                }
            }
        }

        private void findTurns(int page) {
            for (int k = starts[page]; k < starts[page + 1]; k++) {
                int s = order[k];
                since[s] = k == starts[page] ? 0 : turnDay(of.shotDay[order[k - 1]], of.shotDay[s]);
                turns[since[s]] = true;
            }
        }

        /** The first DAY to which, of two SHOTS one behind the other, the later one is nearer. */
        private int turnDay(int earlier, int later) {
            switch (law) {
                case 0: return (earlier + later) / 2 + 1;
                case 1: return (earlier + later + 1) / 2;
                default: return later;
            }
        }

        private void findRuns(int page) {
            int stop = starts[page + 1];
            int first = starts[page];
            for (int k = starts[page]; k < stop; k++) {
                if (k + 1 < stop && isLike(order[k], order[k + 1])) {
                    continue;
                }
                setRun(page, first, k);
                first = k + 1;
            }
        }

        private boolean isLike(int s, int t) {
            return mark[s] != NONE && mark[s] == mark[t];
        }

        private void setRun(int page, int first, int last) {
            int mayFrom = first > starts[page] ? of.shotDay[order[first - 1]] + 1 : 0;
            int mayTo = last + 1 < starts[page + 1] ? of.shotDay[order[last + 1]] - 1 : LAST_DAY;
            for (int k = first; k <= last; k++) {
                int s = order[k];
                sureFirst[s] = of.shotDay[order[first]];
                sureLast[s] = of.shotDay[order[last]];
                mayFirst[s] = mayFrom;
                mayLast[s] = mayTo;
                runLength[s] = last - first + 1;
            }
        }

        int howMany(int page) {
            return starts[page + 1] - starts[page];
        }

        int closest(int page, int day) {
            int found = NONE;
            for (int k = starts[page]; k < starts[page + 1] && since[order[k]] <= day; k++) {
                found = order[k];
            }
            return found;
        }

        int daysOff(int page, int day) {
            int fewest = LAST_DAY;
            for (int k = starts[page]; k < starts[page + 1]; k++) {
                fewest = Math.min(fewest, Math.abs(of.shotDay[order[k]] - day));
            }
            return fewest;
        }

        int bodyRuns(int page) {
            int total = 0;
            for (int k = starts[page]; k < starts[page + 1]; k++) {
                boolean begins = k == starts[page] || !isLike(order[k - 1], order[k]);
                if (begins && bodyOf[order[k]] != NONE) {
                    total++;
                }
            }
            return total;
        }
    }

    /**
     * DAYS that several SPANS have in common, as a first and a last one; none if the first is behind the last.
     * Without SPANS these are all DAYS, which takes nothing from others.
     */
    private static final class Spans {
        int sureFirst;
        int sureLast;
        int mayFirst;
        int mayLast;

        void open() {
            sureFirst = 0;
            sureLast = LAST_DAY;
            mayFirst = 0;
            mayLast = LAST_DAY;
        }

        void narrowByRun(Index x, int shot) {
            sureFirst = Math.max(sureFirst, x.sureFirst[shot]);
            sureLast = Math.min(sureLast, x.sureLast[shot]);
            mayFirst = Math.max(mayFirst, x.mayFirst[shot]);
            mayLast = Math.min(mayLast, x.mayLast[shot]);
        }

        void narrow(Spans by) {
            sureFirst = Math.max(sureFirst, by.sureFirst);
            sureLast = Math.min(sureLast, by.sureLast);
            mayFirst = Math.max(mayFirst, by.mayFirst);
            mayLast = Math.min(mayLast, by.mayLast);
        }

        /** Whether some MAY SPAN of the one and some of the other have no DAY in common. */
        boolean clashesWith(Spans with) {
            return mayFirst > with.mayLast || with.mayFirst > mayLast;
        }

        int verdict() {
            if (sureFirst <= sureLast) {
                return PROVED;
            }
            return mayFirst <= mayLast ? 1 : 0;
        }
    }

    /** A PAGE, FOLLOWED from a DAY. */
    private static final class Walk {
        private Index x;
        final int[] path;
        int length;
        int last;
        int state;

        Walk() {
            path = new int[MOST_PAGES];
        }

        void trace(Index by, int page, int day) {
            x = by;
            length = 0;
            last = NONE;
            int seen = 0;
            int here = page;
            int from = day;
            while (length < MOST_PAGES && (seen & 1 << here) == 0) {
                seen |= 1 << here;
                int s = x.closest(here, from);
                if (s == NONE) {
                    state = LOST;
                    return;
                }
                path[length] = s;
                length++;
                if (x.of.shotKind[s] != IS_MOVE) {
                    last = s;
                    state = x.stateOf[s];
                    return;
                }
                here = x.of.shotOf[s];
                from = x.carry == 0 ? day : x.of.shotDay[s];
            }
            state = ROUND;
        }

        int bodyFound() {
            return last == NONE ? NONE : x.bodyOf[last];
        }

        /** The DAY on which PARTS and LINKS of the BODY found are FOLLOWED. */
        int onwardDay(int day) {
            return x.carry == 0 || last == NONE ? day : x.of.shotDay[last];
        }

        /** Equal for EQUAL BODIES, and for equal STATES without one. */
        int outcome() {
            int held = bodyFound();
            return held == NONE ? MOST_BODIES + state : x.of.least[held];
        }

        void putSpans(Spans into) {
            into.open();
            if (state != WITH_BODY && state != GONE) {
                return;
            }
            for (int i = 0; i < length; i++) {
                into.narrowByRun(x, path[i]);
            }
        }
    }

    /** The VIEW of a PAGE on a DAY. */
    private static final class View {
        private static final int DEEPEST = 3;
        /** 1, four in it, four in each of these, and once more. */
        private static final int MOST_ELEMENTS = 85;

        private Index x;
        private final Walk walk;
        int size;
        final int[] pageOf;
        final int[] lastOf;
        final int[] stateOf;
        final int[] depthOf;
        final int[] insideOf;
        private final Spans[] spansOf;
        final Spans all;
        private final Spans rest;

        View() {
            walk = new Walk();
            pageOf = new int[MOST_ELEMENTS];
            lastOf = new int[MOST_ELEMENTS];
            stateOf = new int[MOST_ELEMENTS];
            depthOf = new int[MOST_ELEMENTS];
            insideOf = new int[MOST_ELEMENTS];
            spansOf = new Spans[MOST_ELEMENTS];
            for (int i = 0; i < MOST_ELEMENTS; i++) {
                spansOf[i] = new Spans();
            }
            all = new Spans();
            rest = new Spans();
        }

        void build(Index by, int page, int day) {
            x = by;
            size = 0;
            all.open();
            grow(this, page, day, 0, NONE);
        }

        private static void grow(View into, int page, int from, int depth, int inside) {
            if (depth > DEEPEST || into.size >= MOST_ELEMENTS) {
                return;
            }
            int me = into.size;
            int held = into.put(page, from, depth, inside);
            if (held == NONE) {
                return;
            }
            Archive archive = into.x.of;
            int onward = into.walk.onwardDay(from);
            for (int i = 0; i < archive.partCount[held]; i++) {
                grow(into, archive.part(held, i), onward, depth + 1, me);
            }
        }

        /** One ELEMENT more: its BODY, NONE without. */
        private int put(int page, int from, int depth, int inside) {
            int me = size;
            size++;
            pageOf[me] = page;
            depthOf[me] = depth;
            insideOf[me] = inside;
            if (liesIn(page, inside)) {
                lastOf[me] = NONE;
                stateOf[me] = NESTED;
                spansOf[me].open();
                return NONE;
            }
            walk.trace(x, page, from);
            lastOf[me] = walk.last;
            stateOf[me] = walk.state;
            walk.putSpans(spansOf[me]);
            all.narrow(spansOf[me]);
            return walk.bodyFound();
        }

        private boolean liesIn(int page, int inside) {
            int around = inside;
            for (int i = 0; i < DEEPEST && around != NONE; i++) {
                if (pageOf[around] == page) {
                    return true;
                }
                around = insideOf[around];
            }
            return false;
        }

        private int bodyAt(int i) {
            return lastOf[i] == NONE ? NONE : x.bodyOf[lastOf[i]];
        }

        int dayAt(int i) {
            return lastOf[i] == NONE ? NONE : x.of.shotDay[lastOf[i]];
        }

        int weightOf(int i) {
            int held = bodyAt(i);
            return held == NONE ? 0 : x.of.weight[held];
        }

        boolean isWhole() {
            for (int i = 0; i < size; i++) {
                if (stateOf[i] != WITH_BODY && stateOf[i] != NESTED) {
                    return false;
                }
            }
            return true;
        }

        boolean isUnlike(View that) {
            if (size != that.size) {
                return true;
            }
            for (int i = 0; i < size; i++) {
                if (pageOf[i] != that.pageOf[i] || lastOf[i] != that.lastOf[i] || stateOf[i] != that.stateOf[i]) {
                    return true;
                }
            }
            return false;
        }

        int clashingPair() {
            for (int i = 0; i < size; i++) {
                for (int j = i + 1; j < size; j++) {
                    if (spansOf[i].clashesWith(spansOf[j])) {
                        return 100 * i + j;
                    }
                }
            }
            return NONE;
        }

        int leastCulprit() {
            if (all.verdict() > 0) {
                return NONE;
            }
            for (int i = 0; i < size; i++) {
                rest.open();
                for (int j = 0; j < size; j++) {
                    if (j != i) {
                        rest.narrow(spansOf[j]);
                    }
                }
                if (rest.verdict() > 0) {
                    return i;
                }
            }
            return NONE;
        }

        int daysApart() {
            int earliest = LAST_DAY;
            int latest = NONE;
            for (int i = 0; i < size; i++) {
                if (lastOf[i] != NONE) {
                    earliest = Math.min(earliest, dayAt(i));
                    latest = Math.max(latest, dayAt(i));
                }
            }
            return latest == NONE ? NONE : latest - earliest;
        }

        int farthestFrom(int day) {
            int found = NONE;
            int most = NONE;
            for (int i = 0; i < size; i++) {
                if (lastOf[i] != NONE && Math.abs(dayAt(i) - day) > most) {
                    most = Math.abs(dayAt(i) - day);
                    found = i;
                }
            }
            return found;
        }

        int driftFrom(int day) {
            int total = 0;
            for (int i = 0; i < size; i++) {
                if (lastOf[i] != NONE) {
                    total += Math.abs(dayAt(i) - day);
                }
            }
            return total;
        }

        int weightOnce() {
            int weighed = 0;
            int total = 0;
            for (int i = 0; i < size; i++) {
                int held = bodyAt(i);
                if (held != NONE && (weighed & 1 << x.of.least[held]) == 0) {
                    weighed |= 1 << x.of.least[held];
                    total += x.of.weight[held];
                }
            }
            return total;
        }
    }

    /** CLICKS from a PAGE on a DAY: by how few each PAGE is come to. */
    private static final class Surfer {
        /** The first place; then PAGES, each on the DAY of one of the SHOTS. */
        private static final int MOST_PLACES = 1 + MOST_PAGES * MOST_SHOTS;

        private final Walk walk;
        final int[] fewest;
        private final int[] pageAt;
        private final int[] dayAt;
        private final int[] stepsTo;
        private int places;
        private final boolean[] met;

        Surfer() {
            walk = new Walk();
            fewest = new int[MOST_PAGES];
            pageAt = new int[MOST_PLACES];
            dayAt = new int[MOST_PLACES];
            stepsTo = new int[MOST_PLACES];
            met = new boolean[MOST_PAGES * MOST_SHOTS];
        }

        void surf(Index x, int page, int day) {
            for (int p = 0; p < MOST_PAGES; p++) {
                fewest[p] = MOST_CLICKS + 1;
            }
            for (int i = 0; i < met.length; i++) {
                met[i] = false;
            }
            places = 0;
            visit(page, day, 0);
            for (int i = 0; i < MOST_PLACES && i < places; i++) {
                if (stepsTo[i] < MOST_CLICKS) {
                    clickAll(x, i);
                }
            }
        }

        private void visit(int page, int day, int steps) {
            if (places >= MOST_PLACES) {
                return;
            }
            pageAt[places] = page;
            dayAt[places] = day;
            stepsTo[places] = steps;
            places++;
            fewest[page] = Math.min(fewest[page], steps);
        }

        private void clickAll(Index x, int place) {
            walk.trace(x, pageAt[place], dayAt[place]);
            int held = walk.bodyFound();
            if (held == NONE) {
                return;
            }
            // By CARRY 0 the DAY never changes, so that one SHOT stands for all.
            int slot = x.carry == 0 ? 0 : walk.last;
            for (int i = 0; i < x.of.linkCount[held]; i++) {
                int target = x.of.link(held, i);
                int key = target * MOST_SHOTS + slot;
                if (!met[key]) {
                    met[key] = true;
                    visit(target, walk.onwardDay(dayAt[place]), stepsTo[place] + 1);
                }
            }
        }
    }

    /** OUT: a VIEW, TOLD. */
    private static final class Teller {
        /** 85 ELEMENTS of at most ten bytes each, brackets and blanks counted in. */
        private static final int MOST_TOLD = 850;

        final byte[] bytes;
        int length;

        Teller() {
            bytes = new byte[MOST_TOLD];
        }

        void write(View view) {
            length = 0;
            int depth = 0;
            for (int i = 0; i < view.size; i++) {
                if (view.depthOf[i] > depth) {
                    put('[');
                } else if (i > 0) {
                    close(depth - view.depthOf[i]);
                    put(' ');
                }
                depth = view.depthOf[i];
                writeElement(view, i);
            }
            close(depth);
        }

        private void close(int brackets) {
            for (int i = 0; i < brackets; i++) {
                put(']');
            }
        }

        private void writeElement(View view, int i) {
            put('p');
            putNumber(view.pageOf[i]);
            switch (view.stateOf[i]) {
                case WITH_BODY:
                    put('@');
                    putNumber(view.dayAt(i));
                    break;
                case GONE:
                    put('@');
                    putNumber(view.dayAt(i));
                    put('!');
                    break;
                case BROKEN:
                    put('?');
                    break;
                case LOST:
                    put('-');
                    break;
                case ROUND:
                    put('~');
                    break;
                default:
                    put('^');
                    break;
            }
        }

        private void putNumber(int number) {
            if (number >= 100) {
                put((char) ('0' + number / 100));
            }
            if (number >= 10) {
                put((char) ('0' + number / 10 % 10));
            }
            put((char) ('0' + number % 10));
        }

        private void put(char sign) {
            if (length < MOST_TOLD) {
                bytes[length] = (byte) sign;
                length++;
            }
        }
    }
}
