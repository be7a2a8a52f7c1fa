/**
 * A house of many hosts: things hold one another across hosts by names that
 * have weights, each host cleans for itself, rings over hosts are found by
 * walks. Words in capitals are those of the document.
 */
public final class FarHold {
    public static final int NONE = -1;

    private static final int HOSTS = 8;
    private static final int MOST_THINGS = 300;
    private static final int MOST_LETTERS = 600;
    private static final int MOST_WALKS = 20;
    private static final int MOST_WAITING = 16;
    private static final int MOST_PLACES = 8;
    private static final int MOST_ELEMENTS = 32;
    private static final int PORTION = 64;

    private static final int LEAF = 0;
    private static final int BOX = 1;
    private static final int ROOT = 2;
    private static final int GATE = 3;

    private static final int BYTES = 0;
    private static final int SHORTS = 1;
    private static final int INTS = 2;
    private static final int LONGS = 3;

    private static final int NAME = 0;
    private static final int MORE = 1;
    private static final int GIVE = 2;
    private static final int HOME = 3;
    private static final int STEP = 4;
    private static final int BACK = 5;

    private static final int UNDER_WAY = 0;
    private static final int ENDED_MEANT = 1;
    private static final int ENDED_CHANGED = 2;
    private static final int ENDED_BROKEN = 3;

    private static final int NOBODY = -1;
    private static final int OTHER = -2;
    private static final int BEYOND = -3;
    private static final int BELOW = -4;
    private static final int FAR = -5;
    private static final int ROOM = -6;
    private static final int NOTHING = -7;
    private static final int REFUSALS = 7;
    private static final int FIRST_REFUSAL_STATUS = 11;

    private static final int ROW_ANSWER = -10;
    private static final int NO_PLACE_ANSWER = -20;

    private final Things things = new Things();
    private final Post post = new Post();
    private final Waiting waiting = new Waiting();
    private final Walk[] walks = new Walk[MOST_WALKS];
    private final int[] counts = new int[HOSTS];
    private final int[] refusals = new int[REFUSALS];
    private final int[] freedNumbers = new int[MOST_THINGS];
    private final Reach reach = new Reach();
    private final Reach alive = new Reach();
    private final Meaning meaning = new Meaning();
    private int walksBegun = 0;
    private int freedSize = 0;
    private int deliveredAgain = 0;

    public FarHold() {
    }

    // ---- THINGS and their PLACES

    public int root(int host, int n) {
        if (!isHost(host)) return refuse(NOBODY);
        if (n < 1) return refuse(BELOW);
        if (n > MOST_PLACES) return refuse(ROOM);
        Thing fresh = things.make(ROOT, host, n);
        if (fresh == null) return refuse(ROOM);
        touch(host);
        return fresh.number;
    }

    public int leaf(int box, int place, int mark) {
        Thing holder = things.find(box);
        if (holder == null) return refuse(NOBODY);
        if (!holder.hasPlaces()) return refuse(OTHER);
        if (!holder.hasPlace(place)) return refuse(BEYOND);
        if (!isNear(holder)) return refuse(FAR);
        Thing fresh = things.make(LEAF, holder.host, 0);
        if (fresh == null) return refuse(ROOM);
        fresh.mark = mark;
        holder.holdThing(place, fresh);
        touch(holder.host);
        return fresh.number;
    }

    public int box(int box, int place, int n) {
        Thing holder = things.find(box);
        if (holder == null) return refuse(NOBODY);
        if (!holder.hasPlaces()) return refuse(OTHER);
        if (!holder.hasPlace(place)) return refuse(BEYOND);
        if (n < 1) return refuse(BELOW);
        if (!isNear(holder)) return refuse(FAR);
        if (n > MOST_PLACES) return refuse(ROOM);
        Thing fresh = things.make(BOX, holder.host, n);
        if (fresh == null) return refuse(ROOM);
        holder.holdThing(place, fresh);
        touch(holder.host);
        return fresh.number;
    }

    public int put(int box, int place, int thing) {
        Thing holder = things.find(box);
        Thing held = things.find(thing);
        if (holder == null || held == null) return refuse(NOBODY);
        if (!holder.hasPlaces()) return refuse(OTHER);
        if (!holder.hasPlace(place)) return refuse(BEYOND);
        if (holder.host != held.host) return refuse(FAR);
        if (!isNear(holder) || !isNear(held)) return refuse(FAR);
        holder.holdThing(place, held);
        touch(holder.host);
        return 1;
    }

    public int clear(int box, int place) {
        Thing holder = things.find(box);
        if (holder == null) return refuse(NOBODY);
        if (!holder.hasPlaces()) return refuse(OTHER);
        if (!holder.hasPlace(place)) return refuse(BEYOND);
        if (!isNear(holder)) return refuse(FAR);
        if (holder.holdsNothing(place)) return refuse(NOTHING);
        holder.holdThing(place, null);
        touch(holder.host);
        return 1;
    }

    // ---- ROWS

    public int row(int box, int place, int sort, int n) {
        Thing holder = things.find(box);
        if (holder == null) return refuse(NOBODY);
        if (!holder.hasPlaces() || sort < BYTES || sort > LONGS) return refuse(OTHER);
        if (!holder.hasPlace(place)) return refuse(BEYOND);
        if (n < 0) return refuse(BELOW);
        if (!isNear(holder)) return refuse(FAR);
        if (n > MOST_ELEMENTS) return refuse(ROOM);
        holder.holdRow(place, new Row(sort, n));
        touch(holder.host);
        return 1;
    }

    public int set(int box, int place, int i, long v) {
        Thing holder = things.find(box);
        if (holder == null) return refuse(NOBODY);
        if (!holder.hasPlaces() || holder.thingAt(place) != null) return refuse(OTHER);
        if (!holder.hasPlace(place)) return refuse(BEYOND);
        Row changed = holder.rowAt(place);
        if (changed != null && !changed.hasElement(i)) return refuse(BEYOND);
        if (!isNear(holder)) return refuse(FAR);
        if (changed == null) return refuse(NOTHING);
        changed.write(i, v);
        touch(holder.host);
        return 1;
    }

    public int copy(int box, int p, int q, int i, int n) {
        Thing holder = things.find(box);
        if (holder == null) return refuse(NOBODY);
        if (!holder.hasPlaces()) return refuse(OTHER);
        if (holder.thingAt(p) != null || holder.thingAt(q) != null) return refuse(OTHER);
        Row source = holder.rowAt(p);
        Row target = holder.rowAt(q);
        boolean bothRows = source != null && target != null;
        if (bothRows && source.sort != target.sort) return refuse(OTHER);
        if (!holder.hasPlace(p) || !holder.hasPlace(q)) return refuse(BEYOND);
        if (bothRows && n >= 0 && !target.canTake(source, i, n)) return refuse(BEYOND);
        if (n < 0) return refuse(BELOW);
        if (!isNear(holder)) return refuse(FAR);
        if (!bothRows) return refuse(NOTHING);
        target.take(source, i, n);
        touch(holder.host);
        return 1;
    }

    public long element(int box, int place, int i) {
        Thing holder = things.find(box);
        if (holder == null) return 0;
        Row asked = holder.rowAt(place);
        if (asked == null) return 0;
        return asked.read(i);
    }

    // ---- What is known of THINGS

    public int holds(int box, int place) {
        Thing holder = things.find(box);
        if (holder == null || !holder.hasPlace(place)) return NO_PLACE_ANSWER;
        Thing held = holder.thingAt(place);
        if (held != null) return held.number;
        Row heldRow = holder.rowAt(place);
        if (heldRow != null) return ROW_ANSWER - heldRow.sort;
        return NONE;
    }

    public int thing(int t, int what) {
        Thing asked = things.ever(t);
        if (asked == null) return NONE;
        if (what == 6) return asked.exit;
        if (what == 7) return asked.broken ? 1 : 0;
        if (!asked.isThere) return NONE;
        switch (what) {
            case 0: return asked.kind;
            case 1: return asked.host;
            case 2: return asked.placesSize();
            case 3: return asked.mark;
            case 4: return asked.named == null ? NONE : asked.named.number;
            case 5: return asked.weight;
            default: return NONE;
        }
    }

    public int gate(int host, int t) {
        Thing asked = things.ever(t);
        if (asked == null) return NONE;
        Thing found = things.gateAt(host, asked);
        return found == null ? NONE : found.number;
    }

    // ---- LETTERS

    public int send(int t, int root, int place) {
        Thing sent = things.find(t);
        Thing target = things.find(root);
        if (sent == null || target == null) return refuse(NOBODY);
        if (target.kind != ROOT) return refuse(OTHER);
        if (!target.hasPlace(place)) return refuse(BEYOND);
        if (sent.host == target.host || !isNear(sent)) return refuse(FAR);
        int number = sendName(sent, target, place);
        if (number == NONE) return refuse(ROOM);
        touch(sent.host);
        return number;
    }

    public int deliver(int letter) {
        Letter arrived = post.find(letter);
        if (arrived == null) return refuse(NOBODY);
        if (!arrived.isUnderWay) {
            deliveredAgain++;
            return 0;
        }
        if (!arrive(arrived)) return refuse(ROOM);
        arrived.isUnderWay = false;
        return 1;
    }

    public int letter(int l, int what) {
        Letter asked = post.find(l);
        if (asked == null) return NONE;
        switch (what) {
            case 0: return asked.kind;
            case 1: return asked.isUnderWay ? 1 : 0;
            case 2: return asked.to;
            case 3: return asked.from;
            case 4: return asked.about.number;
            case 5: return asked.weight;
            case 6: return asked.target == null ? NONE : asked.target.number;
            case 7: return asked.place;
            case 8: return asked.ofWalk == null ? NONE : asked.ofWalk.number;
            case 9: return asked.told;
            default: return NONE;
        }
    }

    // ---- CLEANING

    public int clean(int host) {
        if (!isHost(host)) return refuse(NOBODY);
        findKept(host);
        if (!post.hasRoom(gatesToFree(host))) return refuse(ROOM);
        freedSize = 0;
        for (int n = 0; n < things.size(); n++) {
            Thing t = things.find(n);
            if (t != null && t.host == host && !reach.has(t)) free(t);
        }
        if (freedSize > 0) touch(host);
        return freedSize;
    }

    public int freed(int i) {
        if (i < 0 || i >= freedSize || i >= freedNumbers.length) return NONE;
        return freedNumbers[i];
    }

    // ---- WALKS

    public int doubt(int t) {
        Thing start = things.find(t);
        if (start == null) return refuse(NOBODY);
        if (start.kind == GATE) return refuse(OTHER);
        if (!start.isAnchor()) return refuse(FAR);
        if (walksBegun >= walks.length || !post.hasRoom(1)) return refuse(ROOM);
        Walk begun = new Walk(walksBegun, start);
        walks[walksBegun] = begun;
        walksBegun++;
        post.fileOfWalk(STEP, begun, start.host, start, 0);
        return begun.number;
    }

    public int walk(int w, int what) {
        if (w < 0 || w >= walksBegun || w >= walks.length) return NONE;
        Walk asked = walks[w];
        if (asked == null) return NONE;
        switch (what) {
            case 0: return asked.ending;
            case 1: return asked.start.number;
            case 2: return asked.steps;
            case 3: return asked.backs;
            case 4: return asked.passedSize;
            case 5: return asked.metSize;
            default: return NONE;
        }
    }

    // ---- What is MEANT

    public boolean meant(int t) {
        Thing asked = things.find(t);
        if (asked == null) return false;
        meaning.trace(things, post, waiting);
        return meaning.has(asked);
    }

    public int why(int t, int i) {
        Thing asked = things.find(t);
        if (asked == null) return NONE;
        meaning.trace(things, post, waiting);
        return meaning.onTheWay(asked, i);
    }

    public int dead(int i) {
        if (i < 0) return NONE;
        meaning.trace(things, post, waiting);
        int ahead = i;
        for (int n = 0; n < things.size(); n++) {
            Thing t = things.find(n);
            if (t == null || meaning.has(t)) continue;
            if (ahead == 0) return n;
            ahead--;
        }
        return NONE;
    }

    public int audit(int t, int what) {
        Thing asked = things.ever(t);
        if (asked == null || asked.kind == GATE) return NONE;
        if (what == 0) return asked.exit;
        if (what == 1) return things.weightOfGates(asked) + post.weightUnderWay(asked);
        return NONE;
    }

    public int status(int what) {
        int refusal = what - FIRST_REFUSAL_STATUS;
        if (what >= FIRST_REFUSAL_STATUS && refusal < refusals.length) return refusals[refusal];
        switch (what) {
            case 0: return things.size();
            case 1: return things.sizeThere();
            case 2: return post.size();
            case 3: return post.sizeUnderWay();
            case 4: return walksBegun;
            case 5: return waiting.size();
            case 6: return deliveredAgain;
            case 7: return sumOfCounts();
            default: return NONE;
        }
    }

    // ---- Refusing and counting

    private int refuse(int refusal) {
        int i = -1 - refusal;
        if (i >= 0 && i < refusals.length) refusals[i]++;
        return refusal;
    }

    private static boolean isHost(int host) {
        return host >= 0 && host < HOSTS;
    }

    private void touch(int host) {
        if (isHost(host) && host < counts.length) counts[host]++;
    }

    private int countOf(int host) {
        return isHost(host) && host < counts.length ? counts[host] : 0;
    }

    private int sumOfCounts() {
        int sum = 0;
        for (int count : counts) sum += count;
        return sum;
    }

    private boolean isNear(Thing t) {
        reach.restart();
        addRoots(t.host);
        reach.spread();
        return reach.has(t);
    }

    private void addRoots(int host) {
        for (int n = 0; n < things.size(); n++) {
            Thing t = things.find(n);
            if (t != null && t.host == host && t.kind == ROOT) reach.add(t);
        }
    }

    // ---- Sending and arriving

    /** Answers the LETTER's number, or NONE, with nothing changed, if there is no room. */
    private int sendName(Thing sent, Thing target, int place) {
        if (!post.hasRoom(1)) return NONE;
        if (sent.kind != GATE) {
            sent.exit += PORTION;
            return post.fileName(sent.host, sent, PORTION, target, place);
        }
        if (sent.named == null) return NONE;
        if (sent.weight < 2) {
            if (!waiting.add(sent, target, place)) return NONE;
            return post.fileOfWeight(MORE, sent.host, sent.named.host, sent.named, 0);
        }
        int half = sent.weight / 2;
        sent.weight -= half;
        return post.fileName(sent.host, sent.named, half, target, place);
    }

    /** False, with nothing changed, if there is no room for what the LETTER does. */
    private boolean arrive(Letter arrived) {
        switch (arrived.kind) {
            case NAME: return arriveName(arrived);
            case MORE: return arriveMore(arrived);
            case GIVE: return arriveGive(arrived);
            case HOME: return arriveHome(arrived);
            case STEP: return arriveStep(arrived);
            default: return arriveBack(arrived);
        }
    }

    private boolean arriveName(Letter name) {
        Thing filling = name.about;
        if (name.to == filling.host) {
            filling.takeFromExit(name.weight);
        } else {
            filling = gateWithMore(name.to, name.about, name.weight);
        }
        if (filling == null) return false;
        if (name.target != null) name.target.holdThing(name.place, filling);
        touch(name.to);
        return true;
    }

    /** The HOST's GATE for the THING, made if it has none; null if there is no room for it. */
    private Thing gateWithMore(int host, Thing named, int weight) {
        Thing found = things.gateAt(host, named);
        if (found == null) {
            found = things.make(GATE, host, 0);
            if (found == null) return null;
            found.named = named;
        }
        found.weight += weight;
        return found;
    }

    private boolean arriveMore(Letter more) {
        if (!post.hasRoom(1)) return false;
        more.about.exit += PORTION;
        post.fileOfWeight(GIVE, more.to, more.from, more.about, PORTION);
        touch(more.to);
        return true;
    }

    private boolean arriveGive(Letter give) {
        Thing given = things.gateAt(give.to, give.about);
        int first = given == null ? NONE : waiting.firstFor(given);
        WaitingName name = waiting.at(first);
        if (name != null && !post.hasRoom(1)) return false;
        if (given != null) given.weight += give.weight;
        if (name != null) {
            waiting.remove(first);
            sendName(name.sent, name.target, name.place);
        }
        touch(give.to);
        return true;
    }

    private boolean arriveHome(Letter home) {
        home.about.takeFromExit(home.weight);
        touch(home.to);
        return true;
    }

    private boolean arriveStep(Letter step) {
        Walk walked = step.ofWalk;
        if (walked == null || walked.ending != UNDER_WAY) return true;
        Thing y = step.about;
        boolean passes = y.isThere && !walked.hasPassed(y);
        int steps = passes ? gatesToMeet(walked, y) : 0;
        if (!post.hasRoom(steps + 1)) return false;
        if (passes) {
            walked.pass(y, countOf(y.host));
            meetGates(walked, y);
        }
        post.fileOfWalk(BACK, walked, step.to, y, steps);
        return true;
    }

    /** Leaves in reach what y LEADS to. */
    private int gatesToMeet(Walk walked, Thing y) {
        reach.restart();
        reach.add(y);
        reach.spread();
        int gates = 0;
        for (int i = 0; i < reach.size(); i++) {
            Thing led = reach.at(i);
            if (led != null && led.kind == GATE && !walked.hasMet(led)) gates++;
        }
        return gates;
    }

    private void meetGates(Walk walked, Thing y) {
        for (int n = 0; n < things.size(); n++) {
            Thing led = things.find(n);
            if (led == null || led.named == null) continue;
            if (!reach.has(led) || walked.hasMet(led)) continue;
            walked.meet(led, led.named);
            post.fileOfWalk(STEP, walked, y.host, led.named, 0);
        }
    }

    private boolean arriveBack(Letter back) {
        Walk walked = back.ofWalk;
        if (walked == null || walked.ending != UNDER_WAY) return true;
        walked.comeBack(back.told);
        if (walked.backs == walked.steps) endWalk(walked);
        return true;
    }

    // ---- How WALKS end

    private void endWalk(Walk walked) {
        if (walked.isChanged(counts)) {
            walked.ending = ENDED_CHANGED;
        } else if (isStartAlive(walked)) {
            walked.ending = ENDED_MEANT;
        } else {
            walked.ending = ENDED_BROKEN;
            walked.start.broken = true;
            touch(walked.start.host);
        }
    }

    /**
     * No EXIT, WEIGHT or PLACE of a HOST and no name that WAITS there changes
     * without its COUNT; so where every COUNT is as noted, what stands now is
     * what was noted, and the WALK need not keep it.
     */
    private boolean isStartAlive(Walk walked) {
        reach.restart();
        alive.restart();
        addLiveFromOutside(walked);
        for (int i = 0; i < reach.size() && i < MOST_THINGS; i++) {
            Thing u = reach.at(i);
            if (u == null) continue;
            reach.addHeldBy(u);
            revive(walked, u);
        }
        return alive.has(walked.start);
    }

    private void addLiveFromOutside(Walk walked) {
        for (int n = 0; n < things.size(); n++) {
            Thing t = things.find(n);
            if (t == null) continue;
            boolean holdsUnpassed = t.isAnchor() && !walked.hasPassed(t);
            if (t.kind == ROOT || holdsUnpassed || waiting.firstFor(t) != NONE) reach.add(t);
            if (walked.hasPassed(t) && t.exit > walked.weightMetFor(t)) bringAlive(t);
        }
    }

    /** u is ROOTED, or HELD by one that is ALIVE or was not PASSED. */
    private void revive(Walk walked, Thing u) {
        Thing y = u;
        if (u.kind == GATE) y = walked.hasMet(u) ? u.named : null;
        if (y != null && walked.hasPassed(y)) bringAlive(y);
    }

    /** A BROKEN one that is ALIVE holds nothing. */
    private void bringAlive(Thing y) {
        alive.add(y);
        if (y.isAnchor()) reach.add(y);
    }

    // ---- Keeping and freeing

    /** Leaves in reach what a HOST's CLEANING keeps. */
    private void findKept(int host) {
        reach.restart();
        for (int n = 0; n < things.size(); n++) {
            Thing t = things.find(n);
            if (t == null || t.host != host) continue;
            if (t.kind == ROOT || t.isAnchor() || waiting.firstFor(t) != NONE) reach.add(t);
        }
        reach.spread();
    }

    private int gatesToFree(int host) {
        int gates = 0;
        for (int n = 0; n < things.size(); n++) {
            Thing t = things.find(n);
            if (t != null && t.host == host && t.kind == GATE && !reach.has(t)) gates++;
        }
        return gates;
    }

    private void free(Thing t) {
        t.isThere = false;
        if (t.named != null) post.fileOfWeight(HOME, t.host, t.named.host, t.named, t.weight);
        if (freedSize < freedNumbers.length) {
            freedNumbers[freedSize] = t.number;
            freedSize++;
        }
    }

    /** A ROW of a PLACE; its elements are kept as longs that the SORT could hold. */
    private static final class Row {
        final int sort;
        private final long[] values;

        Row(int sort, int n) {
            this.sort = sort;
            this.values = new long[Math.max(0, Math.min(n, MOST_ELEMENTS))];
        }

        boolean hasElement(int i) {
            return i >= 0 && i < values.length;
        }

        long read(int i) {
            return hasElement(i) ? values[i] : 0;
        }

        void write(int i, long v) {
            if (hasElement(i)) values[i] = cut(v);
        }

        private long cut(long v) {
            switch (sort) {
                case BYTES: return (byte) v;
                case SHORTS: return (short) v;
                case INTS: return (int) v;
                default: return v;
            }
        }

        /** Whether n elements of another from i on are there, and have room here. */
        boolean canTake(Row source, int i, int n) {
            if (i < 0 || n < 0) return false;
            return (long) i + n <= source.values.length && n <= values.length;
        }

        void take(Row source, int i, int n) {
            if (canTake(source, i, n)) System.arraycopy(source.values, i, values, 0, n);
        }
    }

    /** A THING of any KIND. A PLACE has its THING or its ROW, never both. */
    private static final class Thing {
        final int number;
        final int kind;
        final int host;
        private final Thing[] heldThings;
        private final Row[] heldRows;
        int mark = 0;
        Thing named = null;
        int weight = 0;
        int exit = 0;
        boolean broken = false;
        boolean isThere = true;

        Thing(int number, int kind, int host, int places) {
            int size = Math.max(0, Math.min(places, MOST_PLACES));
            this.number = number;
            this.kind = kind;
            this.host = host;
            this.heldThings = new Thing[size];
            this.heldRows = new Row[size];
        }

        int placesSize() {
            return heldThings.length;
        }

        boolean hasPlaces() {
            return kind == BOX || kind == ROOT;
        }

        boolean hasPlace(int place) {
            return place >= 0 && place < heldThings.length && place < heldRows.length;
        }

        Thing thingAt(int place) {
            return hasPlace(place) ? heldThings[place] : null;
        }

        Row rowAt(int place) {
            return hasPlace(place) ? heldRows[place] : null;
        }

        boolean holdsNothing(int place) {
            return thingAt(place) == null && rowAt(place) == null;
        }

        void holdThing(int place, Thing held) {
            if (!hasPlace(place)) return;
            heldThings[place] = held;
            heldRows[place] = null;
        }

        void holdRow(int place, Row held) {
            if (!hasPlace(place)) return;
            heldThings[place] = null;
            heldRows[place] = held;
        }

        /** Whether other HOSTS keep it: never a GATE, whose EXIT stays 0. */
        boolean isAnchor() {
            return exit > 0 && !broken;
        }

        void takeFromExit(int taken) {
            exit -= taken;
            if (exit == 0) broken = false;
        }
    }

    /** All THINGS ever made, by their numbers. */
    private static final class Things {
        private final Thing[] all = new Thing[MOST_THINGS];
        private int made = 0;

        int size() {
            return made;
        }

        int sizeThere() {
            int there = 0;
            for (int n = 0; n < made; n++) {
                if (find(n) != null) there++;
            }
            return there;
        }

        /** Null if there is no room. */
        Thing make(int kind, int host, int places) {
            if (made >= all.length) return null;
            Thing fresh = new Thing(made, kind, host, places);
            all[made] = fresh;
            made++;
            return fresh;
        }

        /** Freed ones too. */
        Thing ever(int n) {
            return n >= 0 && n < made && n < all.length ? all[n] : null;
        }

        /** Only those that are there. */
        Thing find(int n) {
            if (n < 0 || n >= made || n >= all.length) return null;
            Thing t = all[n];
            return t != null && t.isThere ? t : null;
        }

        Thing gateAt(int host, Thing named) {
            for (int n = 0; n < made; n++) {
                Thing t = find(n);
                if (t != null && t.kind == GATE && t.host == host && t.named == named) return t;
            }
            return null;
        }

        int weightOfGates(Thing named) {
            int sum = 0;
            for (int n = 0; n < made; n++) {
                Thing t = find(n);
                if (t != null && t.named == named) sum += t.weight;
            }
            return sum;
        }
    }

    /** A LETTER of any KIND; what its KIND lacks stays 0, NONE or null. */
    private static final class Letter {
        final int kind;
        final int from;
        final int to;
        final Thing about;
        int weight = 0;
        Thing target = null;
        int place = NONE;
        Walk ofWalk = null;
        int told = 0;
        boolean isUnderWay = true;

        Letter(int kind, int from, int to, Thing about) {
            this.kind = kind;
            this.from = from;
            this.to = to;
            this.about = about;
        }
    }

    /** All LETTERS ever made, by their numbers. */
    private static final class Post {
        private final Letter[] all = new Letter[MOST_LETTERS];
        private int made = 0;

        int size() {
            return made;
        }

        boolean hasRoom(int more) {
            return made + more <= all.length;
        }

        Letter find(int l) {
            return l >= 0 && l < made && l < all.length ? all[l] : null;
        }

        private int file(Letter fresh) {
            if (made >= all.length) return NONE;
            all[made] = fresh;
            made++;
            return made - 1;
        }

        int fileName(int from, Thing about, int weight, Thing target, int place) {
            Letter name = new Letter(NAME, from, target.host, about);
            name.weight = weight;
            name.target = target;
            name.place = place;
            return file(name);
        }

        int fileOfWeight(int kind, int from, int to, Thing about, int weight) {
            Letter fresh = new Letter(kind, from, to, about);
            fresh.weight = weight;
            return file(fresh);
        }

        /** A STEP goes to its THING's HOST, a BACK to that of the WALK's first. */
        int fileOfWalk(int kind, Walk ofWalk, int from, Thing y, int told) {
            int to = kind == STEP ? y.host : ofWalk.start.host;
            Letter fresh = new Letter(kind, from, to, y);
            fresh.ofWalk = ofWalk;
            fresh.told = told;
            return file(fresh);
        }

        int sizeUnderWay() {
            int sum = 0;
            for (int l = 0; l < made; l++) {
                Letter asked = find(l);
                if (asked != null && asked.isUnderWay) sum++;
            }
            return sum;
        }

        int weightUnderWay(Thing about) {
            int sum = 0;
            for (int l = 0; l < made; l++) {
                Letter asked = find(l);
                if (asked != null && asked.isUnderWay && asked.about == about) sum += asked.weight;
            }
            return sum;
        }
    }

    /** A name that WAITS for its GATE to get more WEIGHT. */
    private static final class WaitingName {
        final Thing sent;
        final Thing target;
        final int place;

        WaitingName(Thing sent, Thing target, int place) {
            this.sent = sent;
            this.target = target;
            this.place = place;
        }
    }

    /** The names that WAIT, the longest waiting first. */
    private static final class Waiting {
        private final WaitingName[] names = new WaitingName[MOST_WAITING];
        private int filled = 0;

        int size() {
            return filled;
        }

        WaitingName at(int i) {
            return i >= 0 && i < filled && i < names.length ? names[i] : null;
        }

        /** False if there is no room. */
        boolean add(Thing sent, Thing target, int place) {
            if (filled >= names.length) return false;
            names[filled] = new WaitingName(sent, target, place);
            filled++;
            return true;
        }

        /** Which is the first name that WAITS for a GATE; NONE. */
        int firstFor(Thing sent) {
            for (int i = 0; i < filled && i < names.length; i++) {
                WaitingName name = names[i];
                if (name != null && name.sent == sent) return i;
            }
            return NONE;
        }

        void remove(int i) {
            int last = filled - 1;
            if (i < 0 || i > last || last >= names.length) return;
            for (int k = i; k < last; k++) names[k] = names[k + 1];
            names[last] = null;
            filled = last;
        }
    }

    /** What a WALK has come by. */
    private static final class Walk {
        private static final int NOT_NOTED = -1;

        final int number;
        final Thing start;
        private final boolean[] passed = new boolean[MOST_THINGS];
        private final boolean[] met = new boolean[MOST_THINGS];
        private final int[] metWeights = new int[MOST_THINGS];
        private final int[] noted = new int[HOSTS];
        int ending = UNDER_WAY;
        int steps = 1;
        int backs = 0;
        int passedSize = 0;
        int metSize = 0;

        Walk(int number, Thing start) {
            this.number = number;
            this.start = start;
            for (int host = 0; host < noted.length; host++) noted[host] = NOT_NOTED;
        }

        boolean hasPassed(Thing y) {
            return y.number >= 0 && y.number < passed.length && passed[y.number];
        }

        boolean hasMet(Thing gate) {
            return gate.number >= 0 && gate.number < met.length && met[gate.number];
        }

        /** The sum of the WEIGHTS noted of GATES for y. */
        int weightMetFor(Thing y) {
            return y.number >= 0 && y.number < metWeights.length ? metWeights[y.number] : 0;
        }

        void pass(Thing y, int count) {
            if (y.number < 0 || y.number >= passed.length) return;
            if (y.host < 0 || y.host >= noted.length) return;
            passed[y.number] = true;
            passedSize++;
            if (noted[y.host] == NOT_NOTED) noted[y.host] = count;
        }

        void meet(Thing gate, Thing named) {
            if (gate.number < 0 || gate.number >= met.length) return;
            if (named.number < 0 || named.number >= metWeights.length) return;
            met[gate.number] = true;
            metSize++;
            metWeights[named.number] += gate.weight;
        }

        void comeBack(int told) {
            backs++;
            steps += told;
        }

        boolean isChanged(int[] counts) {
            for (int host = 0; host < noted.length && host < counts.length; host++) {
                if (noted[host] != NOT_NOTED && noted[host] != counts[host]) return true;
            }
            return false;
        }
    }

    /** A growing set of THINGS, in the order in which they came; used again by each call. */
    private static final class Reach {
        private final boolean[] marked = new boolean[MOST_THINGS];
        private final Thing[] order = new Thing[MOST_THINGS];
        private int filled = 0;

        void restart() {
            for (int i = 0; i < filled; i++) {
                Thing t = at(i);
                if (t != null && t.number >= 0 && t.number < marked.length) marked[t.number] = false;
            }
            filled = 0;
        }

        int size() {
            return filled;
        }

        Thing at(int i) {
            return i >= 0 && i < filled && i < order.length ? order[i] : null;
        }

        boolean has(Thing t) {
            return t.number >= 0 && t.number < marked.length && marked[t.number];
        }

        /** Does nothing for one that is in it. */
        void add(Thing t) {
            if (t.number < 0 || t.number >= marked.length || marked[t.number]) return;
            if (filled >= order.length) return;
            marked[t.number] = true;
            order[filled] = t;
            filled++;
        }

        void addHeldBy(Thing t) {
            for (int place = 0; place < t.placesSize(); place++) {
                Thing held = t.thingAt(place);
                if (held != null) add(held);
            }
        }

        /** Adds all that those in it LEAD to. */
        void spread() {
            for (int i = 0; i < filled && i < order.length; i++) {
                Thing t = order[i];
                if (t != null) addHeldBy(t);
            }
        }
    }

    /**
     * The shortest ROWS of MEANING from ROOTS to all that is MEANT. THINGS come
     * by the length of their ROWS, then by the ROWS themselves: so the first
     * ROW that comes to a THING is the one to answer.
     */
    private static final class Meaning {
        private final Reach found = new Reach();
        private final boolean[] isNext = new boolean[MOST_THINGS];
        private final Thing[] before = new Thing[MOST_THINGS];
        private final int[] depth = new int[MOST_THINGS];
        private int nextSize = 0;

        boolean has(Thing t) {
            return found.has(t);
        }

        void trace(Things things, Post post, Waiting waiting) {
            found.restart();
            for (int n = 0; n < things.size(); n++) {
                Thing t = things.find(n);
                if (t != null && t.kind == ROOT) addBehind(t, null);
            }
            for (int i = 0; i < found.size() && i < MOST_THINGS; i++) {
                Thing from = found.at(i);
                if (from == null) continue;
                markNext(from, post, waiting);
                addNextByNumbers(from, things);
            }
        }

        private void markNext(Thing from, Post post, Waiting waiting) {
            for (int place = 0; place < from.placesSize(); place++) markNextThing(from.thingAt(place));
            markNextThing(from.named);
            if (from.kind != ROOT) return;
            for (int l = 0; l < post.size(); l++) {
                Letter name = post.find(l);
                if (name != null && name.isUnderWay && name.target == from) markNextThing(name.about);
            }
            for (int i = 0; i < waiting.size(); i++) {
                WaitingName name = waiting.at(i);
                if (name != null && name.target == from) markNextThing(name.sent);
            }
        }

        private void markNextThing(Thing t) {
            if (t == null || !t.isThere) return;
            if (t.number < 0 || t.number >= isNext.length || isNext[t.number]) return;
            isNext[t.number] = true;
            nextSize++;
        }

        private void addNextByNumbers(Thing from, Things things) {
            for (int n = 0; nextSize > 0 && n < things.size() && n < isNext.length; n++) {
                if (!isNext[n]) continue;
                isNext[n] = false;
                nextSize--;
                Thing t = things.find(n);
                if (t != null && !found.has(t)) addBehind(t, from);
            }
        }

        private void addBehind(Thing t, Thing from) {
            if (t.number < 0 || t.number >= before.length || t.number >= depth.length) return;
            found.add(t);
            before[t.number] = from;
            depth[t.number] = from == null ? 0 : depthOf(from) + 1;
        }

        private int depthOf(Thing t) {
            return t.number >= 0 && t.number < depth.length ? depth[t.number] : 0;
        }

        private Thing beforeOf(Thing t) {
            return t.number >= 0 && t.number < before.length ? before[t.number] : null;
        }

        /** The number of the i-th THING of the ROW to t; NONE. */
        int onTheWay(Thing t, int i) {
            if (!found.has(t) || i < 0 || i > depthOf(t)) return NONE;
            Thing at = t;
            for (int d = depthOf(t); d > i && at != null; d--) at = beforeOf(at);
            return at == null ? NONE : at.number;
        }
    }
}
