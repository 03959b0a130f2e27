/**
 * A workshop for meshes.
 *
 * <p>Words in capitals (POINT, FACE, RING, HALF, OPEN, ...) are those of the document's section "Terms".
 * "After" and "before" stand here for the document's "right behind" and "right ahead" in a RING.
 *
 * <p>Every call first looks whether it may be done and only then changes anything; all rows that calls
 * work on are made once, with the object, so that no call makes objects of its own.
 */
public final class QuarryMesh {
    private static final int MAX_POINTS = 100;
    private static final int MAX_FACES = 160;
    private static final int MIN_RING = 3;
    private static final int MAX_RING = 12;
    private static final int MAX_HALVES = MAX_FACES * MAX_RING;
    private static final int PAIRS = MAX_POINTS * MAX_POINTS;
    private static final int REACH = 500;
    private static final int AXES = 3;
    private static final int NONE = -1;

    private static final int BOX_POINTS = 8;
    private static final int BOX_FACES = 6;
    private static final int BOX_CORNERS = 4;
    private static final int[] BOX_RINGS = {0, 3, 2, 1, 4, 5, 6, 7, 0, 1, 5, 4, 1, 2, 6, 5, 2, 3, 7, 6, 3, 0, 4, 7};

    private static final int NEIGHBOURS = 0;
    private static final int FACES_AT = 1;
    private static final int OPEN_FROM = 2;
    private static final int FANS = 3;

    private static final int COLLAPSE = 0;
    private static final int FLIP = 1;
    private static final int JOIN = 2;

    private static final long DIGEST_START = 58071L;

    private final Points pointTable;
    private final Faces faceTable;
    private final Survey survey;
    private final Collapsing collapsing;
    private final Quartering quartering;
    private final Smoothing smoothing;
    private final Ring first;
    private final Ring second;

    /** Creates a mesh without POINTS. */
    public QuarryMesh() {
        pointTable = new Points();
        faceTable = new Faces();
        HalfMarks marks = new HalfMarks();
        survey = new Survey(faceTable, marks);
        collapsing = new Collapsing(faceTable, marks);
        quartering = new Quartering(pointTable, faceTable);
        smoothing = new Smoothing(pointTable, faceTable);
        first = new Ring();
        second = new Ring();
    }

    // ---- points and faces

    /** Adds a POINT and returns its number. */
    public int point(int x, int y, int z) throws IllegalArgumentException, IllegalStateException {
        needPlace(x, y, z);
        needState(pointTable.hasRoom(1));
        return pointTable.add(x, y, z);
    }

    /** Moves a POINT and returns how far it is moved, squared. */
    public int move(int point, int x, int y, int z) throws IndexOutOfBoundsException, IllegalArgumentException {
        needPoint(point);
        needPlace(x, y, z);
        int dx = x - pointTable.get(point, 0);
        int dy = y - pointTable.get(point, 1);
        int dz = z - pointTable.get(point, 2);
        pointTable.put(point, x, y, z);
        return dx * dx + dy * dy + dz * dz;
    }

    /** Adds a FACE with the RING a, b, c, or a, b, c, d (d is -1 without it), and returns its number. */
    public int face(int a, int b, int c, int d) throws IndexOutOfBoundsException, IllegalStateException {
        needPoints(a, b);
        needPoint(c);
        if (d != NONE) {
            needPoint(d);
        }
        first.set(a, b, c, d);
        needState(faceTable.hasRoom(1) && !first.hasTwice() && faceTable.isFree(first));
        return faceTable.add(first);
    }

    /** Takes a FACE away and returns how many are left. */
    public int dropFace(int face) throws IndexOutOfBoundsException {
        needFace(face);
        faceTable.drop(face);
        return faceTable.left();
    }

    /** Takes a POINT away that is in no FACE, and returns how many are left. */
    public int dropPoint(int point) throws IndexOutOfBoundsException, IllegalStateException {
        needPoint(point);
        needState(survey.facesAt(point) == 0);
        pointTable.drop(point);
        return pointTable.left();
    }

    /** Adds a box with 8 POINTS and 6 FACES, and returns its first POINT. */
    public int box(int x, int y, int z, int w) throws IllegalArgumentException, IllegalStateException {
        needArgument(w >= 1 && w <= REACH);
        needPlace(x, y, z);
        needPlace(x + w, y + w, z + w);
        needState(pointTable.hasRoom(BOX_POINTS) && faceTable.hasRoom(BOX_FACES));
        int p = addSquare(x, y, z, w);
        addSquare(x, y, z + w, w);
        addBoxFaces(p);
        return p;
    }

    // ---- steps

    /** SPLITS an EDGE and returns the new POINT. */
    public int split(int a, int b) throws IndexOutOfBoundsException, IllegalArgumentException, IllegalStateException {
        needPoints(a, b);
        needArgument(faceTable.isEdge(a, b));
        int forth = faceTable.owner(a, b);
        int back = faceTable.owner(b, a);
        needState(pointTable.hasRoom(1) && hasRoomInRing(forth) && hasRoomInRing(back));
        int middle = pointTable.addMiddle(a, b);
        putAfter(forth, a, middle);
        putAfter(back, b, middle);
        return middle;
    }

    /** CUTS a FACE and returns the new FACE. */
    public int cut(int face, int a, int b)
            throws IndexOutOfBoundsException, IllegalArgumentException, IllegalStateException {
        needFace(face);
        Ring ring = faceTable.ring(face);
        int from = ring.placeOf(a);
        int to = ring.placeOf(b);
        needArgument(from != NONE && to != NONE && a != b);
        int forth = from < to ? to - from : to - from + ring.length();
        int back = ring.length() - forth;
        needArgument(forth > 1 && back > 1);
        needState(faceTable.hasRoom(1) && !faceTable.isEdge(a, b));
        first.clear();
        first.addStretch(ring, from, forth + 1);
        second.clear();
        second.addStretch(ring, to, back + 1);
        faceTable.reshape(face, first);
        return faceTable.add(second);
    }

    /** JOINS two FACES and returns the FACE that is left. */
    public int join(int a, int b) throws IndexOutOfBoundsException, IllegalArgumentException, IllegalStateException {
        needPoints(a, b);
        needArgument(faceTable.isInner(a, b));
        needState(joinFits(a, b));
        int face = faceTable.owner(a, b);
        int other = faceTable.owner(b, a);
        Ring ring = faceTable.ring(face);
        Ring otherRing = faceTable.ring(other);
        first.clear();
        first.addStretch(ring, ring.placeOf(b), ring.length());
        first.addStretch(otherRing, otherRing.placeOf(a) + 1, otherRing.length() - 2);
        faceTable.drop(other);
        faceTable.reshape(face, first);
        return face;
    }

    /** COLLAPSES b to a and returns how many FACES are GONE by that. */
    public int collapse(int a, int b)
            throws IndexOutOfBoundsException, IllegalArgumentException, IllegalStateException {
        needPoints(a, b);
        needArgument(faceTable.isEdge(a, b));
        needState(collapsing.fits(a, b));
        int gone = collapsing.apply(a, b);
        pointTable.drop(b);
        return gone;
    }

    /** FLIPS an EDGE and returns 1000 * c + d, with the POINTS that it is between then. */
    public int flip(int a, int b) throws IndexOutOfBoundsException, IllegalArgumentException, IllegalStateException {
        needPoints(a, b);
        needArgument(isBetweenTriangles(a, b));
        needState(flipFits(a, b));
        int face = faceTable.owner(a, b);
        int other = faceTable.owner(b, a);
        int c = faceTable.after(face, b);
        int d = faceTable.after(other, a);
        first.set(c, d, b, NONE);
        second.set(d, c, a, NONE);
        faceTable.reshape(face, first);
        faceTable.reshape(other, second);
        return 1000 * c + d;
    }

    /** DRAWS a FACE OUT and returns the first new POINT. */
    public int draw(int face, int dx, int dy, int dz)
            throws IndexOutOfBoundsException, IllegalArgumentException, IllegalStateException {
        needFace(face);
        Ring ring = faceTable.ring(face);
        needArgument(canShift(ring, 0, dx) && canShift(ring, 1, dy) && canShift(ring, 2, dz));
        int n = ring.length();
        needState(pointTable.hasRoom(n) && faceTable.hasRoom(n));
        int start = pointTable.ever();
        second.copyFrom(ring);
        first.clear();
        for (int i = 0; i < n; i++) {
            first.add(pointTable.addShifted(second.get(i), dx, dy, dz));
        }
        faceTable.reshape(face, first);
        addSides(second, start);
        return start;
    }

    /** FILLS a HOLE and returns the new FACE. */
    public int fill(int a, int b) throws IndexOutOfBoundsException, IllegalArgumentException, IllegalStateException {
        needPoints(a, b);
        needArgument(faceTable.isOpen(a, b));
        int n = survey.holeLength(a, b);
        needState(faceTable.hasRoom(1) && n >= MIN_RING && n <= MAX_RING);
        readHole(a, b, n);
        needState(!first.hasTwice());
        return faceTable.add(first);
    }

    /** Puts all in QUARTERS and returns how many FACES there are then. */
    public int quarters() throws IllegalStateException {
        needState(quartering.fits());
        quartering.apply();
        return faceTable.left();
    }

    /** Smoothes and returns how many POINTS are elsewhere then. */
    public int smooth() {
        return smoothing.apply();
    }

    /** Turns all FACES round and returns how many there are. */
    public int turn() {
        for (int f = 0; f < faceTable.ever(); f++) {
            if (faceTable.has(f)) {
                first.copyBackwards(faceTable.ring(f));
                faceTable.reshape(f, first);
            }
        }
        return faceTable.left();
    }

    // ---- what lies beside what

    /** Returns how many POINTS there are. */
    public int points() {
        return pointTable.left();
    }

    /** Returns how many EDGES there are. */
    public int edges() {
        return faceTable.edgeCount();
    }

    /** Returns how many FACES there are. */
    public int faces() {
        return faceTable.left();
    }

    /** Returns how many HOLES there are. */
    public int holes() {
        return survey.holeCount();
    }

    /** Returns how many SHELLS there are. */
    public int shells() {
        return survey.shellCount();
    }

    /** Returns x, y or z (axis 0, 1 or 2) of a POINT. */
    public int at(int point, int axis) throws IndexOutOfBoundsException, IllegalArgumentException {
        needPoint(point);
        needAxis(axis);
        return pointTable.get(point, axis);
    }

    /** Returns how many POINTS the RING of a FACE has. */
    public int size(int face) throws IndexOutOfBoundsException {
        needFace(face);
        return faceTable.ring(face).length();
    }

    /** Returns the POINT at a place, from 0, in the RING of a FACE. */
    public int corner(int face, int place) throws IndexOutOfBoundsException {
        needFace(face);
        Ring ring = faceTable.ring(face);
        if (place < 0 || place >= ring.length()) {
            throw new IndexOutOfBoundsException("no such place");
        }
        return ring.get(place);
    }

    /** Returns the FACE that has (a, b); -1 without one. */
    public int faceOf(int a, int b) throws IndexOutOfBoundsException {
        needPoints(a, b);
        return faceTable.owner(a, b);
    }

    /** Returns how many HALVES the HOLE with (a, b) has; 0 if that is not OPEN. */
    public int hole(int a, int b) throws IndexOutOfBoundsException {
        needPoints(a, b);
        return survey.holeLength(a, b);
    }

    /** Returns how many NEIGHBOURS (0), FACES (1), OPEN HALVES from it (2) or FANS (3) a POINT has. */
    public int around(int point, int what) throws IndexOutOfBoundsException, IllegalArgumentException {
        needPoint(point);
        needArgument(what >= NEIGHBOURS && what <= FANS);
        return countAround(point, what);
    }

    // ---- how large, how far

    /** Returns the sum of p1 * q2 - p2 * q1 over the RING of a FACE, 1 and 2 being the axes behind axis. */
    public int normal(int face, int axis) throws IndexOutOfBoundsException, IllegalArgumentException {
        needFace(face);
        needAxis(axis);
        return pointTable.normalOf(faceTable.ring(face), axis);
    }

    /** Returns the sum of p . (q x r) over all FACES. */
    public long volume() {
        return wholeBulk();
    }

    /** Returns the mean of the squared lengths of all EDGES; 0 without any. */
    public double meanEdge() {
        int n = faceTable.edgeCount();
        if (n == 0) {
            return 0.0;
        }
        return (double) sumOfSquares() / (double) n;
    }

    /** Returns over how many EDGES one goes from one POINT to another one, at the least; -1 if there is no way. */
    public int steps(int from, int to) throws IndexOutOfBoundsException {
        needPoints(from, to);
        return survey.wayLength(from, to);
    }

    // ---- what would be (nothing is changed)

    /** Returns for how many pairs of a and b COLLAPSE (0), FLIP (1) or JOIN (2) would be done. */
    public int may(int what) throws IllegalArgumentException {
        needArgument(what >= COLLAPSE && what <= JOIN);
        return countPairs(what);
    }

    /** Returns what volume() would be, if b was COLLAPSED to a. */
    public long volumeWith(int a, int b)
            throws IndexOutOfBoundsException, IllegalArgumentException, IllegalStateException {
        needPoints(a, b);
        needArgument(faceTable.isEdge(a, b));
        needState(collapsing.fits(a, b));
        long sum = 0L;
        for (int f = 0; f < faceTable.ever(); f++) {
            sum += pointTable.bulkOf(collapsing.shape(f, a, b));
        }
        return sum;
    }

    /** Returns how many HOLES there would be without a FACE. */
    public int holesWithout(int face) throws IndexOutOfBoundsException {
        needFace(face);
        faceTable.release(face);
        int n = survey.holeCount();
        faceTable.claim(face);
        return n;
    }

    /** Computes a checksum over all that can be asked. */
    public long digest() {
        long d = DIGEST_START;
        d = mix(d, pointTable.left());
        d = mix(d, faceTable.edgeCount());
        d = mix(d, faceTable.left());
        d = mix(d, survey.holeCount());
        d = mix(d, survey.shellCount());
        d = mix(d, wholeBulk());
        for (int p = 0; p < pointTable.ever(); p++) {
            if (pointTable.has(p)) {
                d = mixPoint(d, p);
            }
        }
        for (int f = 0; f < faceTable.ever(); f++) {
            if (faceTable.has(f)) {
                d = mixFace(d, f);
            }
        }
        d = mix(d, countPairs(FLIP));
        return mix(d, countPairs(JOIN));
    }

    // What calls need of their arguments and of the mesh.

    private static boolean isInReach(long coordinate) {
        return coordinate >= -REACH && coordinate <= REACH;
    }

    private static void needArgument(boolean holds) {
        if (!holds) {
            throw new IllegalArgumentException("not a fitting argument");
        }
    }

    private static void needState(boolean holds) {
        if (!holds) {
            throw new IllegalStateException("refused");
        }
    }

    private static void needPlace(int x, int y, int z) {
        needArgument(isInReach(x) && isInReach(y) && isInReach(z));
    }

    private static void needAxis(int axis) {
        needArgument(axis >= 0 && axis < AXES);
    }

    private void needPoint(int p) {
        if (!pointTable.has(p)) {
            throw new IndexOutOfBoundsException("no such POINT");
        }
    }

    private void needPoints(int a, int b) {
        needPoint(a);
        needPoint(b);
    }

    private void needFace(int f) {
        if (!faceTable.has(f)) {
            throw new IndexOutOfBoundsException("no such FACE");
        }
    }

    // Parts of the steps.

    private int addSquare(int x, int y, int z, int w) {
        int p = pointTable.add(x, y, z);
        pointTable.add(x + w, y, z);
        pointTable.add(x + w, y + w, z);
        pointTable.add(x, y + w, z);
        return p;
    }

    private void addBoxFaces(int p) {
        for (int i = 0; i + BOX_CORNERS <= BOX_RINGS.length; i += BOX_CORNERS) {
            first.set(p + BOX_RINGS[i], p + BOX_RINGS[i + 1], p + BOX_RINGS[i + 2], p + BOX_RINGS[i + 3]);
            faceTable.add(first);
        }
    }

    private boolean hasRoomInRing(int f) {
        return faceTable.ring(f).length() < MAX_RING;
    }

    private void putAfter(int f, int a, int added) {
        if (!faceTable.has(f)) {
            return;
        }
        Ring ring = faceTable.ring(f);
        first.clear();
        for (int i = 0; i < ring.length(); i++) {
            first.add(ring.get(i));
            if (ring.get(i) == a) {
                first.add(added);
            }
        }
        faceTable.reshape(f, first);
    }

    private boolean joinFits(int a, int b) {
        Ring ring = faceTable.ring(faceTable.owner(a, b));
        Ring other = faceTable.ring(faceTable.owner(b, a));
        if (ring.length() + other.length() - 2 > MAX_RING) {
            return false;
        }
        for (int i = 0; i < other.length(); i++) {
            int p = other.get(i);
            if (p != a && p != b && ring.placeOf(p) != NONE) {
                return false;
            }
        }
        return true;
    }

    private boolean isBetweenTriangles(int a, int b) {
        return faceTable.ring(faceTable.owner(a, b)).length() == MIN_RING
                && faceTable.ring(faceTable.owner(b, a)).length() == MIN_RING;
    }

    private boolean flipFits(int a, int b) {
        int c = faceTable.after(faceTable.owner(a, b), b);
        int d = faceTable.after(faceTable.owner(b, a), a);
        return c != d && !faceTable.isEdge(c, d);
    }

    private boolean canShift(Ring ring, int axis, int by) {
        for (int i = 0; i < ring.length(); i++) {
            if (!isInReach((long) pointTable.get(ring.get(i), axis) + by)) {
                return false;
            }
        }
        return true;
    }

    private void addSides(Ring old, int start) {
        int n = old.length();
        for (int i = 0; i < n; i++) {
            int next = i + 1 < n ? i + 1 : 0;
            first.set(old.get(i), old.get(next), start + next, start + i);
            faceTable.add(first);
        }
    }

    private void readHole(int a, int b, int n) {
        first.clear();
        int from = a;
        int to = b;
        for (int i = 0; i < n; i++) {
            first.add(from);
            int next = faceTable.nextOpen(from, to);
            from = to;
            to = next;
        }
    }

    // Parts of the questions.

    private int countAround(int p, int what) {
        switch (what) {
            case NEIGHBOURS:
                return faceTable.neighboursOf(p);
            case FACES_AT:
                return survey.facesAt(p);
            case OPEN_FROM:
                return survey.openFrom(p);
            default:
                return survey.fanCount(p);
        }
    }

    private long wholeBulk() {
        long sum = 0L;
        for (int f = 0; f < faceTable.ever(); f++) {
            sum += pointTable.bulkOf(faceTable.ring(f));
        }
        return sum;
    }

    private long sumOfSquares() {
        long sum = 0L;
        for (int f = 0; f < faceTable.ever(); f++) {
            Ring ring = faceTable.ring(f);
            for (int i = 0; i < ring.length(); i++) {
                if (faceTable.isToldBy(ring.get(i), ring.get(i + 1))) {
                    sum += pointTable.squaredLength(ring.get(i), ring.get(i + 1));
                }
            }
        }
        return sum;
    }

    private int countPairs(int what) {
        int n = 0;
        for (int f = 0; f < faceTable.ever(); f++) {
            Ring ring = faceTable.ring(f);
            for (int i = 0; i < ring.length(); i++) {
                int a = ring.get(i);
                int b = ring.get(i + 1);
                n += isAllowed(what, a, b) ? 1 : 0;
                // The other way round is met in the other FACE, but for an OPEN one, which is in none.
                n += faceTable.isOpen(b, a) && isAllowed(what, b, a) ? 1 : 0;
            }
        }
        return n;
    }

    private boolean isAllowed(int what, int a, int b) {
        switch (what) {
            case COLLAPSE:
                return collapsing.fits(a, b);
            case FLIP:
                return isBetweenTriangles(a, b) && flipFits(a, b);
            default:
                return faceTable.isInner(a, b) && joinFits(a, b);
        }
    }

    private static long mix(long d, long v) {
        return d * 31L + v;
    }

    private long mixPoint(long start, int p) {
        long d = mix(start, p);
        for (int axis = 0; axis < AXES; axis++) {
            d = mix(d, pointTable.get(p, axis));
        }
        for (int what = NEIGHBOURS; what <= FANS; what++) {
            d = mix(d, countAround(p, what));
        }
        return d;
    }

    private long mixFace(long start, int f) {
        Ring ring = faceTable.ring(f);
        long d = mix(mix(start, f), ring.length());
        for (int i = 0; i < ring.length(); i++) {
            d = mix(d, ring.get(i));
        }
        for (int axis = 0; axis < AXES; axis++) {
            d = mix(d, pointTable.normalOf(ring, axis));
        }
        return d;
    }

    private static boolean isPointNumber(int p) {
        return p >= 0 && p < MAX_POINTS;
    }

    private static boolean isFaceNumber(int f) {
        return f >= 0 && f < MAX_FACES;
    }

    /** A row of POINTS that goes back from the last one to the first. */
    private static final class Ring {
        private final int[] row = new int[MAX_RING];
        private int length;

        int length() {
            return length;
        }

        /** The POINT at a place; places go round, so that one past an end is at the other end. */
        int get(int place) {
            if (length <= 0) {
                return NONE;
            }
            int rest = place % length;
            return row[rest < 0 ? rest + length : rest];
        }

        int placeOf(int p) {
            for (int i = 0; i < length; i++) {
                if (row[i] == p) {
                    return i;
                }
            }
            return NONE;
        }

        boolean hasTwice() {
            for (int i = 0; i < length; i++) {
                if (placeOf(row[i]) != i) {
                    return true;
                }
            }
            return false;
        }

        void clear() {
            length = 0;
        }

        void add(int p) {
            if (length < MAX_RING) {
                row[length] = p;
                length++;
            }
        }

        void set(int a, int b, int c, int d) {
            clear();
            add(a);
            add(b);
            add(c);
            if (d != NONE) {
                add(d);
            }
        }

        void addStretch(Ring from, int start, int count) {
            for (int i = 0; i < count; i++) {
                add(from.get(start + i));
            }
        }

        void copyFrom(Ring other) {
            length = other.length;
            for (int i = 0; i < length && i < MAX_RING; i++) {
                row[i] = other.row[i];
            }
        }

        void copyBackwards(Ring other) {
            clear();
            for (int i = 0; i < other.length(); i++) {
                add(other.get(-i));
            }
        }
    }

    /** All POINTS ever, with their places. */
    private static final class Points {
        private final int[][] places = new int[AXES][MAX_POINTS];
        private final boolean[] there = new boolean[MAX_POINTS];
        private int ever;
        private int left;

        int ever() {
            return ever;
        }

        int left() {
            return left;
        }

        boolean has(int p) {
            return isPointNumber(p) && there[p];
        }

        boolean hasRoom(int more) {
            return more <= MAX_POINTS - ever;
        }

        int get(int p, int axis) {
            if (!isPointNumber(p) || axis < 0 || axis >= AXES) {
                return 0;
            }
            return places[axis][p];
        }

        void put(int p, int x, int y, int z) {
            if (isPointNumber(p)) {
                places[0][p] = x;
                places[1][p] = y;
                places[2][p] = z;
            }
        }

        int add(int x, int y, int z) {
            int p = ever;
            if (!isPointNumber(p)) {
                return NONE;
            }
            put(p, x, y, z);
            there[p] = true;
            ever++;
            left++;
            return p;
        }

        int addMiddle(int a, int b) {
            return add((get(a, 0) + get(b, 0)) / 2, (get(a, 1) + get(b, 1)) / 2, (get(a, 2) + get(b, 2)) / 2);
        }

        int addCentre(Ring ring) {
            return add(centre(ring, 0), centre(ring, 1), centre(ring, 2));
        }

        int addShifted(int p, int dx, int dy, int dz) {
            return add(get(p, 0) + dx, get(p, 1) + dy, get(p, 2) + dz);
        }

        void drop(int p) {
            if (has(p)) {
                there[p] = false;
                left--;
            }
        }

        int squaredLength(int a, int b) {
            int sum = 0;
            for (int axis = 0; axis < AXES; axis++) {
                int d = get(b, axis) - get(a, axis);
                sum += d * d;
            }
            return sum;
        }

        int normalOf(Ring ring, int axis) {
            int one = (axis + 1) % AXES;
            int two = (axis + 2) % AXES;
            int sum = 0;
            for (int i = 0; i < ring.length(); i++) {
                int p = ring.get(i);
                int q = ring.get(i + 1);
                sum += get(p, one) * get(q, two) - get(p, two) * get(q, one);
            }
            return sum;
        }

        /** What a FACE with this RING adds to the volume; 0 for a RING of fewer than 3 POINTS. */
        long bulkOf(Ring ring) {
            long sum = 0L;
            for (int i = 1; i + 1 < ring.length(); i++) {
                sum += spat(ring.get(0), ring.get(i), ring.get(i + 1));
            }
            return sum;
        }

        private long spat(int p, int q, int r) {
            long sum = 0L;
            for (int axis = 0; axis < AXES; axis++) {
                int one = (axis + 1) % AXES;
                int two = (axis + 2) % AXES;
                long cross = (long) get(q, one) * get(r, two) - (long) get(q, two) * get(r, one);
                sum += get(p, axis) * cross;
            }
            return sum;
        }

        private int centre(Ring ring, int axis) {
            int n = ring.length();
            if (n == 0) {
                return 0;
            }
            int sum = 0;
            for (int i = 0; i < n; i++) {
                sum += get(ring.get(i), axis);
            }
            return sum / n;
        }
    }

    /** All FACES ever, with their RINGS, and the owner of each HALF: the FACE that it is in. */
    private static final class Faces {
        private final Ring[] rings = new Ring[MAX_FACES];
        private final Ring empty = new Ring();
        /** One more than the owner's number each, so that a new row says NONE everywhere. */
        private final int[] owners = new int[PAIRS];
        private int ever;
        private int left;

        Faces() {
            for (int f = 0; f < MAX_FACES; f++) {
                rings[f] = new Ring();
            }
        }

        int ever() {
            return ever;
        }

        int left() {
            return left;
        }

        /** A FACE that is GONE, or was never there, has an empty RING. */
        boolean has(int f) {
            return ring(f).length() > 0;
        }

        Ring ring(int f) {
            return f >= 0 && f < MAX_FACES ? rings[f] : empty;
        }

        boolean hasRoom(int more) {
            return more <= MAX_FACES - ever;
        }

        int owner(int a, int b) {
            if (a < 0 || a >= MAX_POINTS || b < 0 || b >= MAX_POINTS) {
                return NONE;
            }
            return owners[a * MAX_POINTS + b] - 1;
        }

        boolean isOpen(int a, int b) {
            return owner(a, b) == NONE && owner(b, a) != NONE;
        }

        boolean isEdge(int a, int b) {
            return owner(a, b) != NONE || owner(b, a) != NONE;
        }

        boolean isInner(int a, int b) {
            return owner(a, b) != NONE && owner(b, a) != NONE;
        }

        /** Of the HALVES in FACES, one for each EDGE: loops over all HALVES meet it just once so. */
        boolean isToldBy(int a, int b) {
            return a < b || owner(b, a) == NONE;
        }

        boolean isFree(Ring ring) {
            for (int i = 0; i < ring.length(); i++) {
                if (owner(ring.get(i), ring.get(i + 1)) != NONE) {
                    return false;
                }
            }
            return true;
        }

        int after(int f, int p) {
            Ring ring = ring(f);
            return ring.get(ring.placeOf(p) + 1);
        }

        int before(int f, int p) {
            Ring ring = ring(f);
            return ring.get(ring.placeOf(p) - 1);
        }

        /** The c of the OPEN HALF (b, c) that is the next one behind the OPEN HALF (a, b). */
        int nextOpen(int a, int b) {
            int c = a;
            for (int turned = 0; turned < MAX_POINTS; turned++) {
                int f = owner(b, c);
                if (f == NONE) {
                    return c;
                }
                c = before(f, b);
            }
            return NONE;
        }

        int edgeCount() {
            int n = 0;
            for (int f = 0; f < ever; f++) {
                Ring ring = ring(f);
                for (int i = 0; i < ring.length(); i++) {
                    n += isToldBy(ring.get(i), ring.get(i + 1)) ? 1 : 0;
                }
            }
            return n;
        }

        int halfCount() {
            int n = 0;
            for (int f = 0; f < ever; f++) {
                n += ring(f).length();
            }
            return n;
        }

        int neighboursOf(int p) {
            int n = 0;
            for (int q = 0; q < MAX_POINTS; q++) {
                n += isEdge(p, q) ? 1 : 0;
            }
            return n;
        }

        int add(Ring ring) {
            int f = ever;
            if (!isFaceNumber(f)) {
                return NONE;
            }
            ever++;
            left++;
            reshape(f, ring);
            return f;
        }

        void drop(int f) {
            if (has(f)) {
                release(f);
                ring(f).clear();
                left--;
            }
        }

        void reshape(int f, Ring ring) {
            release(f);
            ring(f).copyFrom(ring);
            claim(f);
        }

        void claim(int f) {
            Ring ring = ring(f);
            for (int i = 0; i < ring.length(); i++) {
                setOwner(ring.get(i), ring.get(i + 1), f);
            }
        }

        /**
         * Only HALVES that still are the FACE's own: where a step reshapes several FACES one by one,
         * another of them may have claimed a HALF already that this one is about to lose.
         */
        void release(int f) {
            Ring ring = ring(f);
            for (int i = 0; i < ring.length(); i++) {
                if (owner(ring.get(i), ring.get(i + 1)) == f) {
                    setOwner(ring.get(i), ring.get(i + 1), NONE);
                }
            }
        }

        private void setOwner(int a, int b, int f) {
            if (a >= 0 && a < MAX_POINTS && b >= 0 && b < MAX_POINTS) {
                owners[a * MAX_POINTS + b] = f + 1;
            }
        }
    }

    /** Marks on HALVES that are all taken off at once; whoever marks takes them off first. */
    private static final class HalfMarks {
        private final int[] marks = new int[PAIRS];
        private int now;

        void takeOff() {
            now++;
        }

        /** Marks (a, b); false, if it has the mark already (or is no pair of POINTS). */
        boolean mark(int a, int b) {
            if (!isPointNumber(a) || !isPointNumber(b) || marks[a * MAX_POINTS + b] == now) {
                return false;
            }
            marks[a * MAX_POINTS + b] = now;
            return true;
        }
    }

    /** Looks at how FACES lie beside each other, and changes none. */
    private static final class Survey {
        private final Faces faces;
        private final HalfMarks marks;
        private final boolean[] seen = new boolean[MAX_FACES];
        private final int[] queue = new int[MAX_FACES];
        private final int[] distance = new int[MAX_POINTS];
        private int queued;

        Survey(Faces faces, HalfMarks marks) {
            this.faces = faces;
            this.marks = marks;
        }

        int facesAt(int p) {
            int n = 0;
            for (int q = 0; q < MAX_POINTS; q++) {
                n += faces.owner(p, q) != NONE ? 1 : 0;
            }
            return n;
        }

        int openFrom(int p) {
            int n = 0;
            for (int q = 0; q < MAX_POINTS; q++) {
                n += faces.isOpen(p, q) ? 1 : 0;
            }
            return n;
        }

        int holeCount() {
            marks.takeOff();
            int n = 0;
            for (int f = 0; f < faces.ever(); f++) {
                Ring ring = faces.ring(f);
                for (int i = 0; i < ring.length(); i++) {
                    n += markHole(ring.get(i + 1), ring.get(i)) > 0 ? 1 : 0;
                }
            }
            return n;
        }

        int holeLength(int a, int b) {
            marks.takeOff();
            return markHole(a, b);
        }

        /** Marks the HOLE with (a, b) and tells its HALVES; 0, if (a, b) is not OPEN or is marked already. */
        private int markHole(int a, int b) {
            if (!faces.isOpen(a, b)) {
                return 0;
            }
            int from = a;
            int to = b;
            int n = 0;
            while (n < MAX_HALVES && marks.mark(from, to)) {
                int next = faces.nextOpen(from, to);
                from = to;
                to = next;
                n++;
            }
            return n;
        }

        int shellCount() {
            forgetFaces();
            int n = 0;
            for (int f = 0; f < faces.ever(); f++) {
                if (faces.has(f) && see(f)) {
                    n++;
                    seeShell(f);
                }
            }
            return n;
        }

        private void seeShell(int start) {
            queued = 0;
            enqueue(start);
            for (int i = 0; i < queued && i < MAX_FACES; i++) {
                Ring ring = faces.ring(queue[i]);
                for (int k = 0; k < ring.length(); k++) {
                    int other = faces.owner(ring.get(k + 1), ring.get(k));
                    if (see(other)) {
                        enqueue(other);
                    }
                }
            }
        }

        int fanCount(int p) {
            forgetFaces();
            int n = 0;
            for (int q = 0; q < MAX_POINTS; q++) {
                int f = faces.owner(p, q);
                if (see(f)) {
                    n++;
                    seeFan(p, f);
                }
            }
            return n;
        }

        /** From the FACE start, goes round p one way and then the other, each as far as EDGES lead on. */
        private void seeFan(int p, int start) {
            int f = faces.owner(faces.after(start, p), p);
            for (int i = 0; i < MAX_FACES && see(f); i++) {
                f = faces.owner(faces.after(f, p), p);
            }
            f = faces.owner(p, faces.before(start, p));
            for (int i = 0; i < MAX_FACES && see(f); i++) {
                f = faces.owner(p, faces.before(f, p));
            }
        }

        int wayLength(int from, int to) {
            for (int p = 0; p < MAX_POINTS; p++) {
                distance[p] = NONE;
            }
            queued = 0;
            reach(from, 0);
            for (int i = 0; i < queued && i < MAX_POINTS; i++) {
                int p = queue[i];
                if (p == to) {
                    return distanceOf(p);
                }
                for (int q = 0; q < MAX_POINTS; q++) {
                    if (distance[q] == NONE && faces.isEdge(p, q)) {
                        reach(q, distanceOf(p) + 1);
                    }
                }
            }
            return NONE;
        }

        private int distanceOf(int p) {
            return isPointNumber(p) ? distance[p] : NONE;
        }

        private void reach(int p, int far) {
            if (isPointNumber(p)) {
                distance[p] = far;
                enqueue(p);
            }
        }

        private void enqueue(int number) {
            if (queued >= 0 && queued < MAX_FACES) {
                queue[queued] = number;
                queued++;
            }
        }

        private void forgetFaces() {
            for (int f = 0; f < MAX_FACES; f++) {
                seen[f] = false;
            }
        }

        /** False, if the FACE was seen already, or is none. */
        private boolean see(int f) {
            if (!isFaceNumber(f) || seen[f]) {
                return false;
            }
            seen[f] = true;
            return true;
        }
    }

    /** COLLAPSES, and what they would do. */
    private static final class Collapsing {
        private final Faces faces;
        private final HalfMarks marks;
        private final Ring shaped = new Ring();

        Collapsing(Faces faces, HalfMarks marks) {
            this.faces = faces;
            this.marks = marks;
        }

        /** The RING of a FACE behind the COLLAPSE of b to a, with fewer than 3 POINTS if it is GONE then. */
        Ring shape(int f, int a, int b) {
            Ring ring = faces.ring(f);
            boolean withoutA = ring.placeOf(a) == NONE;
            shaped.clear();
            for (int i = 0; i < ring.length(); i++) {
                int p = ring.get(i);
                if (p != b) {
                    shaped.add(p);
                } else if (withoutA) {
                    shaped.add(a);
                }
            }
            return shaped;
        }

        boolean fits(int a, int b) {
            marks.takeOff();
            int gone = 0;
            for (int q = 0; q < MAX_POINTS; q++) {
                int f = faces.owner(b, q);
                if (f != NONE) {
                    Ring ring = shape(f, a, b);
                    if (ring.length() < MIN_RING) {
                        gone++;
                    } else if (!halvesFit(ring, b)) {
                        return false;
                    }
                }
            }
            return gone < faces.left();
        }

        /** A HALF may not be in a FACE without b, which stays as it is, nor in one shaped ahead of this one. */
        private boolean halvesFit(Ring ring, int b) {
            for (int i = 0; i < ring.length(); i++) {
                int u = ring.get(i);
                int v = ring.get(i + 1);
                int f = faces.owner(u, v);
                boolean taken = f != NONE && faces.ring(f).placeOf(b) == NONE;
                if (taken || !marks.mark(u, v)) {
                    return false;
                }
            }
            return true;
        }

        /** Each FACE with b has just one HALF from b, and takes no other FACE's away when it loses it. */
        int apply(int a, int b) {
            int gone = 0;
            for (int q = 0; q < MAX_POINTS; q++) {
                int f = faces.owner(b, q);
                if (f != NONE) {
                    Ring ring = shape(f, a, b);
                    if (ring.length() < MIN_RING) {
                        faces.drop(f);
                        gone++;
                    } else {
                        faces.reshape(f, ring);
                    }
                }
            }
            return gone;
        }
    }

    /** QUARTERS. */
    private static final class Quartering {
        private final Points points;
        private final Faces faces;
        private final int[] middles = new int[PAIRS];
        private final int[] centres = new int[MAX_FACES];
        private final Ring quarter = new Ring();

        Quartering(Points points, Faces faces) {
            this.points = points;
            this.faces = faces;
        }

        boolean fits() {
            return points.hasRoom(faces.edgeCount() + faces.left()) && faces.hasRoom(faces.halfCount());
        }

        void apply() {
            int old = faces.ever();
            addMiddles();
            addCentres();
            for (int f = 0; f < old && f < MAX_FACES; f++) {
                if (faces.has(f)) {
                    addQuarters(faces.ring(f), centres[f]);
                    faces.drop(f);
                }
            }
        }

        private void addMiddles() {
            for (int a = 0; a < MAX_POINTS; a++) {
                for (int b = a + 1; b < MAX_POINTS; b++) {
                    if (faces.isEdge(a, b)) {
                        int middle = points.addMiddle(a, b);
                        middles[a * MAX_POINTS + b] = middle;
                        middles[b * MAX_POINTS + a] = middle;
                    }
                }
            }
        }

        private void addCentres() {
            for (int f = 0; f < MAX_FACES; f++) {
                if (faces.has(f)) {
                    centres[f] = points.addCentre(faces.ring(f));
                }
            }
        }

        private void addQuarters(Ring ring, int centre) {
            for (int i = 0; i < ring.length(); i++) {
                int p = ring.get(i);
                quarter.set(p, middle(p, ring.get(i + 1)), centre, middle(ring.get(i - 1), p));
                faces.add(quarter);
            }
        }

        private int middle(int a, int b) {
            return isPointNumber(a) && isPointNumber(b) ? middles[a * MAX_POINTS + b] : NONE;
        }
    }

    /** Smoothing: all new places are found ahead of the first move. */
    private static final class Smoothing {
        private final Points points;
        private final Faces faces;
        private final int[][] places = new int[AXES][MAX_POINTS];

        Smoothing(Points points, Faces faces) {
            this.points = points;
            this.faces = faces;
        }

        int apply() {
            for (int p = 0; p < MAX_POINTS; p++) {
                for (int axis = 0; axis < AXES; axis++) {
                    places[axis][p] = points.get(p, axis);
                }
                if (!isAtOpenHalf(p)) {
                    findPlace(p);
                }
            }
            int moved = 0;
            for (int p = 0; p < MAX_POINTS; p++) {
                moved += settle(p) ? 1 : 0;
            }
            return moved;
        }

        private boolean isAtOpenHalf(int p) {
            for (int q = 0; q < MAX_POINTS; q++) {
                if (faces.isOpen(p, q) || faces.isOpen(q, p)) {
                    return true;
                }
            }
            return false;
        }

        private void findPlace(int p) {
            int n = faces.neighboursOf(p);
            if (n == 0 || !isPointNumber(p)) {
                return;
            }
            for (int axis = 0; axis < AXES; axis++) {
                int sum = 0;
                for (int q = 0; q < MAX_POINTS; q++) {
                    sum += faces.isEdge(p, q) ? points.get(q, axis) : 0;
                }
                places[axis][p] = sum / n;
            }
        }

        private boolean settle(int p) {
            if (!points.has(p)) {
                return false;
            }
            int x = places[0][p];
            int y = places[1][p];
            int z = places[2][p];
            boolean elsewhere = x != points.get(p, 0) || y != points.get(p, 1) || z != points.get(p, 2);
            points.put(p, x, y, z);
            return elsewhere;
        }
    }
}
