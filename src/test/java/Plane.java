import java.util.ArrayList;
import java.util.List;
import java.util.TreeSet;

/** Places and segments in the plane, reckoned with fractions: what the oracles of the tests share. */
final class Plane {
    private Plane() {
    }

    static final class Place implements Comparable<Place> {
        final Frac x;
        final Frac y;

        Place(Frac x, Frac y) {
            this.x = x;
            this.y = y;
        }

        static Place of(long x, long y) {
            return new Place(Frac.of(x), Frac.of(y));
        }

        Place plus(Place way, Frac share) {
            return new Place(x.plus(way.x.times(share)), y.plus(way.y.times(share)));
        }

        Place minus(Place other) {
            return new Place(x.minus(other.x), y.minus(other.y));
        }

        @Override
        public int compareTo(Place other) {
            int first = x.compareTo(other.x);
            return first != 0 ? first : y.compareTo(other.y);
        }

        @Override
        public boolean equals(Object other) {
            return other instanceof Place && compareTo((Place) other) == 0;
        }

        @Override
        public int hashCode() {
            return x.hashCode() * 31 + y.hashCode();
        }

        @Override
        public String toString() {
            return x + " " + y;
        }
    }

    static Frac cross(Place a, Place b) {
        return a.x.times(b.y).minus(a.y.times(b.x));
    }

    static Frac dot(Place a, Place b) {
        return a.x.times(b.x).plus(a.y.times(b.y));
    }

    /** A segment, perhaps of no length, with marks of whom it belongs to. */
    static final class Segment {
        final Place a;
        final Place b;
        final int owner;
        final int part;
        final int ring;
        final int number;

        Segment(Place a, Place b, int owner) {
            this(a, b, owner, 0, 0, 0);
        }

        Segment(Place a, Place b, int owner, int part, int ring, int number) {
            this.a = a;
            this.b = b;
            this.owner = owner;
            this.part = part;
            this.ring = ring;
            this.number = number;
        }

        Place way() {
            return b.minus(a);
        }

        boolean holds(Place p) {
            if (isOut(a.x, b.x, p.x) || isOut(a.y, b.y, p.y)) {
                return false;
            }
            if (cross(way(), p.minus(a)).sign() != 0) {
                return false;
            }
            return dot(a.minus(p), b.minus(p)).sign() <= 0;
        }

        private static boolean isOut(Frac a, Frac b, Frac p) {
            int one = a.compareTo(p);
            int other = b.compareTo(p);
            return one < 0 && other < 0 || one > 0 && other > 0;
        }

        /** Ends of what this and the other one have in common: none, one or two places. */
        List<Place> common(Segment other) {
            TreeSet<Place> places = new TreeSet<>();
            for (Place p : new Place[] {a, b}) {
                if (other.holds(p)) {
                    places.add(p);
                }
            }
            for (Place p : new Place[] {other.a, other.b}) {
                if (holds(p)) {
                    places.add(p);
                }
            }
            Frac bend = cross(way(), other.way());
            if (bend.sign() != 0) {
                Frac share = cross(other.a.minus(a), other.way()).over(bend);
                Place p = a.plus(way(), share);
                if (holds(p) && other.holds(p)) {
                    places.add(p);
                }
            }
            return new ArrayList<>(places);
        }

        boolean isEnd(Place p) {
            return a.equals(p) || b.equals(p);
        }

        /** Whether a line from p straight to the right (and a bit upwards) crosses this. */
        boolean isCrossedFrom(Place p) {
            boolean aAbove = a.y.compareTo(p.y) > 0;
            boolean bAbove = b.y.compareTo(p.y) > 0;
            if (aAbove == bAbove) {
                return false;
            }
            Frac x = a.x.plus(p.y.minus(a.y).times(b.x.minus(a.x)).over(b.y.minus(a.y)));
            return x.compareTo(p.x) > 0;
        }
    }

    /**
     * A place a bit beside p in a direction, so near that no segment comes between, nor a level line through an end:
     * half of the way to the first of them, at most the whole way.
     */
    static Place beside(Place p, Place way, List<Segment> segments) {
        Frac nearest = Frac.ONE;
        Segment line = new Segment(p, p.plus(way, Frac.ONE), 0);
        for (Segment s : segments) {
            for (Place q : line.common(s)) {
                Frac share = shareOf(p, way, q);
                if (share.sign() > 0 && share.compareTo(nearest) < 0) {
                    nearest = share;
                }
            }
        }
        return p.plus(way, nearest.times(Frac.HALF));
    }

    private static Frac shareOf(Place p, Place way, Place q) {
        return way.x.sign() != 0 ? q.x.minus(p.x).over(way.x) : q.y.minus(p.y).over(way.y);
    }

    static Place middle(Place a, Place b) {
        return a.plus(b.minus(a), Frac.HALF);
    }
}
