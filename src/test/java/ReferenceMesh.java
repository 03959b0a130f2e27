import java.util.ArrayDeque;
import java.util.ArrayList;
import java.util.Arrays;
import java.util.Collections;
import java.util.HashMap;
import java.util.HashSet;
import java.util.List;
import java.util.Map;
import java.util.Set;
import java.util.TreeSet;

/**
 * The document once more, in the slowest and plainest way: each step is done on a copy, the whole copy is
 * looked at against section 1 (MESH), and only then it becomes the mesh. It shares no code with QuarryMesh.
 */
final class ReferenceMesh {
    private List<int[]> points = new ArrayList<>();
    private List<List<Integer>> faces = new ArrayList<>();

    private record Half(int a, int b) {
        Half back() {
            return new Half(b, a);
        }
    }

    private ReferenceMesh copy() {
        ReferenceMesh c = new ReferenceMesh();
        for (int[] p : points) {
            c.points.add(p == null ? null : p.clone());
        }
        for (List<Integer> f : faces) {
            c.faces.add(f == null ? null : new ArrayList<>(f));
        }
        return c;
    }

    private void adopt(ReferenceMesh c) {
        if (!c.holds()) {
            throw new IllegalStateException();
        }
        points = c.points;
        faces = c.faces;
    }

    private boolean holds() {
        if (points.size() > 100 || faces.size() > 160) {
            return false;
        }
        Set<Half> halves = new HashSet<>();
        for (List<Integer> f : faces) {
            if (f == null) {
                continue;
            }
            if (f.size() < 3 || f.size() > 12 || new HashSet<>(f).size() != f.size()) {
                return false;
            }
            for (Half h : halvesOf(f)) {
                if (points.get(h.a()) == null || !halves.add(h)) {
                    return false;
                }
            }
        }
        return true;
    }

    private static List<Half> halvesOf(List<Integer> ring) {
        List<Half> all = new ArrayList<>();
        for (int i = 0; i < ring.size(); i++) {
            all.add(new Half(ring.get(i), ring.get((i + 1) % ring.size())));
        }
        return all;
    }

    private Map<Half, Integer> owners() {
        Map<Half, Integer> all = new HashMap<>();
        for (int f = 0; f < faces.size(); f++) {
            if (faces.get(f) != null) {
                for (Half h : halvesOf(faces.get(f))) {
                    all.put(h, f);
                }
            }
        }
        return all;
    }

    /** The EDGES, the smaller number first, sorted by the smaller, then the greater one. */
    private List<Half> edgeList() {
        Set<Integer> keys = new TreeSet<>();
        for (Half h : owners().keySet()) {
            keys.add(Math.min(h.a(), h.b()) * 1000 + Math.max(h.a(), h.b()));
        }
        List<Half> all = new ArrayList<>();
        for (int key : keys) {
            all.add(new Half(key / 1000, key % 1000));
        }
        return all;
    }

    private Set<Integer> neighbours(int p) {
        Set<Integer> all = new TreeSet<>();
        for (Half e : edgeList()) {
            if (e.a() == p) {
                all.add(e.b());
            }
            if (e.b() == p) {
                all.add(e.a());
            }
        }
        return all;
    }

    private Set<Half> openHalves() {
        Map<Half, Integer> owners = owners();
        Set<Half> all = new HashSet<>();
        for (Half h : owners.keySet()) {
            if (!owners.containsKey(h.back())) {
                all.add(h.back());
            }
        }
        return all;
    }

    private static int ahead(List<Integer> ring, int p) {
        int i = ring.indexOf(p);
        return ring.get((i + ring.size() - 1) % ring.size());
    }

    private Half nextOpen(Half h, Set<Half> open, Map<Half, Integer> owners) {
        int b = h.b();
        int c = ahead(faces.get(owners.get(h.back())), b);
        while (!open.contains(new Half(b, c))) {
            c = ahead(faces.get(owners.get(new Half(b, c))), b);
        }
        return new Half(b, c);
    }

    private List<Half> holeOf(Half start) {
        List<Half> row = new ArrayList<>();
        Set<Half> open = openHalves();
        if (!open.contains(start)) {
            return row;
        }
        Map<Half, Integer> owners = owners();
        Half h = start;
        do {
            row.add(h);
            h = nextOpen(h, open, owners);
        } while (!h.equals(start));
        return row;
    }

    private void needPoints(int... numbers) {
        for (int p : numbers) {
            if (p < 0 || p >= points.size() || points.get(p) == null) {
                throw new IndexOutOfBoundsException();
            }
        }
    }

    /** How many POINTS the FACE with (a, b) has; 0 without one. */
    int sizeAt(int a, int b) {
        Integer f = owners().get(new Half(a, b));
        return f == null ? 0 : faces.get(f).size();
    }

    boolean hasFace(int f) {
        return f >= 0 && f < faces.size() && faces.get(f) != null;
    }

    private List<Integer> needFace(int f) {
        if (!hasFace(f)) {
            throw new IndexOutOfBoundsException();
        }
        return faces.get(f);
    }

    private static void need(boolean holds) {
        if (!holds) {
            throw new IllegalArgumentException();
        }
    }

    private static boolean inReach(long... all) {
        for (long v : all) {
            if (v < -500 || v > 500) {
                return false;
            }
        }
        return true;
    }

    private int addPoint(int x, int y, int z) {
        points.add(new int[] {x, y, z});
        return points.size() - 1;
    }

    private int addFace(Integer... ring) {
        faces.add(new ArrayList<>(Arrays.asList(ring)));
        return faces.size() - 1;
    }

    private int addMiddle(List<Integer> of) {
        int[] sum = new int[3];
        for (int p : of) {
            for (int k = 0; k < 3; k++) {
                sum[k] += points.get(p)[k];
            }
        }
        return addPoint(sum[0] / of.size(), sum[1] / of.size(), sum[2] / of.size());
    }

    private static <T> int live(List<T> all) {
        int n = 0;
        for (T one : all) {
            n += one == null ? 0 : 1;
        }
        return n;
    }

    int point(int x, int y, int z) {
        need(inReach(x, y, z));
        ReferenceMesh c = copy();
        int p = c.addPoint(x, y, z);
        adopt(c);
        return p;
    }

    int move(int point, int x, int y, int z) {
        needPoints(point);
        need(inReach(x, y, z));
        int[] was = points.set(point, new int[] {x, y, z});
        return (x - was[0]) * (x - was[0]) + (y - was[1]) * (y - was[1]) + (z - was[2]) * (z - was[2]);
    }

    int face(int a, int b, int c, int d) {
        needPoints(a, b, c);
        if (d != -1) {
            needPoints(d);
        }
        ReferenceMesh m = copy();
        int f = d == -1 ? m.addFace(a, b, c) : m.addFace(a, b, c, d);
        adopt(m);
        return f;
    }

    int dropFace(int face) {
        needFace(face);
        faces.set(face, null);
        return live(faces);
    }

    int dropPoint(int point) {
        needPoints(point);
        for (List<Integer> f : faces) {
            if (f != null && f.contains(point)) {
                throw new IllegalStateException();
            }
        }
        points.set(point, null);
        return live(points);
    }

    int box(int x, int y, int z, int w) {
        need(w >= 1 && w <= 500 && inReach(x, y, z, (long) x + w, (long) y + w, (long) z + w));
        ReferenceMesh c = copy();
        int p = c.points.size();
        for (int k = 0; k <= w; k += w) {
            c.addPoint(x, y, z + k);
            c.addPoint(x + w, y, z + k);
            c.addPoint(x + w, y + w, z + k);
            c.addPoint(x, y + w, z + k);
        }
        c.addFace(p, p + 3, p + 2, p + 1);
        c.addFace(p + 4, p + 5, p + 6, p + 7);
        c.addFace(p, p + 1, p + 5, p + 4);
        c.addFace(p + 1, p + 2, p + 6, p + 5);
        c.addFace(p + 2, p + 3, p + 7, p + 6);
        c.addFace(p + 3, p, p + 4, p + 7);
        adopt(c);
        return p;
    }

    int split(int a, int b) {
        needPoints(a, b);
        Integer forth = owners().get(new Half(a, b));
        Integer back = owners().get(new Half(b, a));
        need(forth != null || back != null);
        ReferenceMesh c = copy();
        int m = c.addMiddle(List.of(a, b));
        if (forth != null) {
            c.faces.get(forth).add(c.faces.get(forth).indexOf(a) + 1, m);
        }
        if (back != null) {
            c.faces.get(back).add(c.faces.get(back).indexOf(b) + 1, m);
        }
        adopt(c);
        return m;
    }

    /** From the POINT a on up to the POINT b. */
    private static List<Integer> stretch(List<Integer> ring, int a, int b) {
        List<Integer> turned = new ArrayList<>(ring);
        Collections.rotate(turned, -ring.indexOf(a));
        return new ArrayList<>(turned.subList(0, turned.indexOf(b) + 1));
    }

    int cut(int face, int a, int b) {
        List<Integer> ring = needFace(face);
        need(ring.contains(a) && ring.contains(b) && a != b);
        need(!halvesOf(ring).contains(new Half(a, b)) && !halvesOf(ring).contains(new Half(b, a)));
        ReferenceMesh c = copy();
        c.faces.set(face, stretch(ring, a, b));
        c.faces.add(stretch(ring, b, a));
        adopt(c);
        return faces.size() - 1;
    }

    int join(int a, int b) {
        needPoints(a, b);
        Integer forth = owners().get(new Half(a, b));
        Integer back = owners().get(new Half(b, a));
        need(forth != null && back != null);
        Set<Integer> common = new HashSet<>(faces.get(forth));
        common.retainAll(faces.get(back));
        if (forth.equals(back) || common.size() != 2) {
            throw new IllegalStateException();
        }
        ReferenceMesh c = copy();
        List<Integer> joined = stretch(faces.get(forth), b, a);
        List<Integer> rest = stretch(faces.get(back), a, b);
        joined.addAll(rest.subList(1, rest.size() - 1));
        c.faces.set(forth, joined);
        c.faces.set(back, null);
        adopt(c);
        return forth;
    }

    private ReferenceMesh collapsed(int a, int b) {
        needPoints(a, b);
        need(neighbours(a).contains(b));
        ReferenceMesh c = copy();
        for (int f = 0; f < faces.size(); f++) {
            List<Integer> ring = c.faces.get(f);
            if (ring == null) {
                continue;
            }
            if (ring.contains(a)) {
                ring.remove((Integer) b);
            } else {
                Collections.replaceAll(ring, b, a);
            }
            if (ring.size() < 3) {
                c.faces.set(f, null);
            }
        }
        c.points.set(b, null);
        if (live(c.faces) == 0 || !c.holds()) {
            throw new IllegalStateException();
        }
        return c;
    }

    int collapse(int a, int b) {
        ReferenceMesh c = collapsed(a, b);
        int gone = live(faces) - live(c.faces);
        adopt(c);
        return gone;
    }

    int flip(int a, int b) {
        needPoints(a, b);
        Integer forth = owners().get(new Half(a, b));
        Integer back = owners().get(new Half(b, a));
        need(forth != null && back != null && faces.get(forth).size() == 3 && faces.get(back).size() == 3);
        int c = third(faces.get(forth), a, b);
        int d = third(faces.get(back), a, b);
        if (c == d) {
            throw new IllegalStateException();
        }
        ReferenceMesh m = copy();
        m.faces.set(forth, new ArrayList<>(List.of(c, d, b)));
        m.faces.set(back, new ArrayList<>(List.of(d, c, a)));
        adopt(m);
        return 1000 * c + d;
    }

    private static int third(List<Integer> ring, int a, int b) {
        for (int p : ring) {
            if (p != a && p != b) {
                return p;
            }
        }
        return -1;
    }

    int draw(int face, int dx, int dy, int dz) {
        List<Integer> ring = needFace(face);
        for (int p : ring) {
            int[] at = points.get(p);
            need(inReach((long) at[0] + dx, (long) at[1] + dy, (long) at[2] + dz));
        }
        ReferenceMesh c = copy();
        Map<Integer, Integer> drawn = new HashMap<>();
        List<Integer> own = new ArrayList<>();
        for (int p : ring) {
            int[] at = points.get(p);
            drawn.put(p, c.addPoint(at[0] + dx, at[1] + dy, at[2] + dz));
            own.add(drawn.get(p));
        }
        for (Half h : halvesOf(ring)) {
            c.addFace(h.a(), h.b(), drawn.get(h.b()), drawn.get(h.a()));
        }
        c.faces.set(face, own);
        adopt(c);
        return own.get(0);
    }

    int fill(int a, int b) {
        needPoints(a, b);
        List<Half> row = holeOf(new Half(a, b));
        need(!row.isEmpty());
        ReferenceMesh c = copy();
        List<Integer> ring = new ArrayList<>();
        for (Half h : row) {
            ring.add(h.a());
        }
        c.faces.add(ring);
        adopt(c);
        return faces.size() - 1;
    }

    int quarters() {
        ReferenceMesh c = copy();
        Map<Half, Integer> middles = new HashMap<>();
        for (Half e : edgeList()) {
            int m = c.addMiddle(List.of(e.a(), e.b()));
            middles.put(e, m);
            middles.put(e.back(), m);
        }
        Map<Integer, Integer> centres = new HashMap<>();
        for (int f = 0; f < faces.size(); f++) {
            if (faces.get(f) != null) {
                centres.put(f, c.addMiddle(faces.get(f)));
            }
        }
        for (int f = 0; f < faces.size(); f++) {
            List<Integer> ring = faces.get(f);
            if (ring == null) {
                continue;
            }
            for (Half h : halvesOf(ring)) {
                int ahead = ahead(ring, h.a());
                c.addFace(h.a(), middles.get(h), centres.get(f), middles.get(new Half(ahead, h.a())));
            }
            c.faces.set(f, null);
        }
        adopt(c);
        return live(faces);
    }

    int smooth() {
        Set<Integer> atOpen = new HashSet<>();
        for (Half h : openHalves()) {
            atOpen.add(h.a());
            atOpen.add(h.b());
        }
        ReferenceMesh c = copy();
        ReferenceMesh ahead = copy();
        int elsewhere = 0;
        for (int p = 0; p < points.size(); p++) {
            if (points.get(p) == null || atOpen.contains(p) || neighbours(p).isEmpty()) {
                continue;
            }
            int m = ahead.addMiddle(new ArrayList<>(neighbours(p)));
            c.points.set(p, ahead.points.remove(m));
            elsewhere += Arrays.equals(c.points.get(p), points.get(p)) ? 0 : 1;
        }
        adopt(c);
        return elsewhere;
    }

    int turn() {
        for (List<Integer> ring : faces) {
            if (ring != null) {
                Collections.reverse(ring);
                Collections.rotate(ring, 1);
            }
        }
        return live(faces);
    }

    int points() {
        return live(points);
    }

    int edges() {
        return edgeList().size();
    }

    int faces() {
        return live(faces);
    }

    int holes() {
        Set<Half> left = new HashSet<>(openHalves());
        int n = 0;
        while (!left.isEmpty()) {
            left.removeAll(new HashSet<>(holeOf(left.iterator().next())));
            n++;
        }
        return n;
    }

    int shells() {
        return bundles(-1);
    }

    /** How many bundles FACES fall into over EDGES with both HALVES; at = -1: all; or those at one POINT. */
    private int bundles(int at) {
        Map<Half, Integer> owners = owners();
        int[] bundle = new int[faces.size()];
        for (int f = 0; f < bundle.length; f++) {
            bundle[f] = f;
        }
        for (Half h : owners.keySet()) {
            Integer other = owners.get(h.back());
            if (other != null && (at == -1 || h.a() == at || h.b() == at)) {
                int from = bundle[owners.get(h)];
                int to = bundle[other];
                for (int f = 0; f < bundle.length; f++) {
                    bundle[f] = bundle[f] == from ? to : bundle[f];
                }
            }
        }
        Set<Integer> all = new HashSet<>();
        for (int f = 0; f < bundle.length; f++) {
            if (faces.get(f) != null && (at == -1 || faces.get(f).contains(at))) {
                all.add(bundle[f]);
            }
        }
        return all.size();
    }

    int at(int point, int axis) {
        needPoints(point);
        need(axis >= 0 && axis <= 2);
        return points.get(point)[axis];
    }

    int size(int face) {
        return needFace(face).size();
    }

    int corner(int face, int place) {
        List<Integer> ring = needFace(face);
        if (place < 0 || place >= ring.size()) {
            throw new IndexOutOfBoundsException();
        }
        return ring.get(place);
    }

    int faceOf(int a, int b) {
        needPoints(a, b);
        return owners().getOrDefault(new Half(a, b), -1);
    }

    int hole(int a, int b) {
        needPoints(a, b);
        return holeOf(new Half(a, b)).size();
    }

    int around(int point, int what) {
        needPoints(point);
        need(what >= 0 && what <= 3);
        if (what == 0) {
            return neighbours(point).size();
        }
        if (what == 3) {
            return bundles(point);
        }
        int n = 0;
        if (what == 1) {
            for (List<Integer> f : faces) {
                n += f != null && f.contains(point) ? 1 : 0;
            }
            return n;
        }
        for (Half h : openHalves()) {
            n += h.a() == point ? 1 : 0;
        }
        return n;
    }

    int normal(int face, int axis) {
        List<Integer> ring = needFace(face);
        need(axis >= 0 && axis <= 2);
        int one = new int[] {1, 2, 0}[axis];
        int two = new int[] {2, 0, 1}[axis];
        int sum = 0;
        for (Half h : halvesOf(ring)) {
            int[] p = points.get(h.a());
            int[] q = points.get(h.b());
            sum += p[one] * q[two] - p[two] * q[one];
        }
        return sum;
    }

    long volume() {
        long sum = 0;
        for (List<Integer> ring : faces) {
            for (int i = 1; ring != null && i < ring.size() - 1; i++) {
                int[] p = points.get(ring.get(0));
                int[] q = points.get(ring.get(i));
                int[] r = points.get(ring.get(i + 1));
                sum += p[0] * (q[1] * r[2] - q[2] * r[1]) + p[1] * (q[2] * r[0] - q[0] * r[2])
                        + p[2] * (q[0] * r[1] - q[1] * r[0]);
            }
        }
        return sum;
    }

    double meanEdge() {
        double sum = 0;
        for (Half e : edgeList()) {
            for (int k = 0; k < 3; k++) {
                double d = points.get(e.a())[k] - points.get(e.b())[k];
                sum += d * d;
            }
        }
        return edgeList().isEmpty() ? 0 : sum / edgeList().size();
    }

    int steps(int from, int to) {
        needPoints(from, to);
        Map<Integer, Integer> far = new HashMap<>();
        ArrayDeque<Integer> waiting = new ArrayDeque<>();
        far.put(from, 0);
        waiting.add(from);
        while (!waiting.isEmpty()) {
            int p = waiting.remove();
            for (int q : neighbours(p)) {
                if (far.putIfAbsent(q, far.get(p) + 1) == null) {
                    waiting.add(q);
                }
            }
        }
        return far.getOrDefault(to, -1);
    }

    int may(int what) {
        need(what >= 0 && what <= 2);
        int n = 0;
        for (Half e : edgeList()) {
            n += passes(what, e.a(), e.b()) + passes(what, e.b(), e.a());
        }
        return n;
    }

    private int passes(int what, int a, int b) {
        ReferenceMesh c = copy();
        try {
            if (what == 0) {
                c.collapse(a, b);
            } else if (what == 1) {
                c.flip(a, b);
            } else {
                c.join(a, b);
            }
            return 1;
        } catch (IllegalStateException | IllegalArgumentException e) {
            return 0;
        }
    }

    long volumeWith(int a, int b) {
        return collapsed(a, b).volume();
    }

    int holesWithout(int face) {
        needFace(face);
        ReferenceMesh c = copy();
        c.faces.set(face, null);
        return c.holes();
    }

    long digest() {
        long d = 58071;
        for (long v : new long[] {points(), edges(), faces(), holes(), shells(), volume()}) {
            d = d * 31 + v;
        }
        for (int p = 0; p < points.size(); p++) {
            if (points.get(p) != null) {
                d = d * 31 + p;
                for (int k = 0; k < 3; k++) {
                    d = d * 31 + at(p, k);
                }
                for (int k = 0; k < 4; k++) {
                    d = d * 31 + around(p, k);
                }
            }
        }
        for (int f = 0; f < faces.size(); f++) {
            if (faces.get(f) != null) {
                d = (d * 31 + f) * 31 + size(f);
                for (int p : faces.get(f)) {
                    d = d * 31 + p;
                }
                for (int k = 0; k < 3; k++) {
                    d = d * 31 + normal(f, k);
                }
            }
        }
        return (d * 31 + may(1)) * 31 + may(2);
    }
}
