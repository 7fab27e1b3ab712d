import java.math.BigDecimal;
import java.math.BigInteger;
import java.math.RoundingMode;
import java.util.ArrayList;
import java.util.List;

/**
 * The document written down a second time, plainly: big numbers that cannot overflow, every answer
 * worked out anew from the items, nothing shared with BoxPacker but the names of the calls.
 */
public final class PlainModel {
    private static final BigInteger ZERO = BigInteger.ZERO;
    private static final BigInteger LIMIT = BigInteger.valueOf(1073741823);
    private static final int RUNNING = -1073741824;

    private enum Kind { LEAF, RULE, GLUE, KERN, BOX }

    private record Item(Kind kind, int tag, int[] sizes, int[] give, Packed box, int shift) {
        boolean hasDepth() {
            return kind == Kind.LEAF || kind == Kind.RULE || kind == Kind.BOX;
        }

        boolean running(int what) {
            return kind == Kind.RULE && sizes[what] == RUNNING;
        }

        BigInteger size(int what) {
            return running(what) ? ZERO : big(sizes[what]);
        }
    }

    private static final class Packed {
        private boolean below;
        private List<Item> items;
        private int deep;
        private BigInteger inAll;
        private final BigInteger[] sizes = new BigInteger[3];
        private BigInteger excess;
        private int order = 0;
        private BigInteger total = ZERO;
        private BigInteger overfull = ZERO;
    }

    private List<Item> list = new ArrayList<>();
    private final List<Packed> packed = new ArrayList<>();
    private List<long[]> marks = new ArrayList<>();

    private static BigInteger big(long n) {
        return BigInteger.valueOf(n);
    }

    private static boolean size(int n) {
        return big(n).abs().compareTo(LIMIT) <= 0;
    }

    private static BigInteger sized(BigInteger n) {
        if (n.abs().compareTo(LIMIT) > 0) {
            throw new IllegalStateException();
        }
        return n;
    }

    private static void argument(boolean right) {
        if (!right) {
            throw new IllegalArgumentException();
        }
    }

    private static void index(boolean right) {
        if (!right) {
            throw new IndexOutOfBoundsException();
        }
    }

    private int add(Item item) {
        if (list.size() == 100) {
            throw new UnsupportedOperationException();
        }
        list.add(item);
        return list.size() - 1;
    }

    public int leaf(int tag, int width, int height, int depth) {
        argument(tag >= 0 && tag < 65536 && size(width) && size(height) && size(depth));
        return add(new Item(Kind.LEAF, tag, new int[] {width, height, depth}, null, null, 0));
    }

    public int rule(int width, int height, int depth) {
        argument(size(width) || width == RUNNING);
        argument(size(height) || height == RUNNING);
        argument(size(depth) || depth == RUNNING);
        return add(new Item(Kind.RULE, -1, new int[] {width, height, depth}, null, null, 0));
    }

    public int glue(int width, int stretch, int order, int shrink, int shrinkOrder) {
        argument(size(width) && size(stretch) && size(shrink) && stretch >= 0 && shrink >= 0);
        argument(order >= 0 && order <= 3 && shrinkOrder >= 0 && shrinkOrder <= 3);
        int[] give = {stretch, order, shrink, shrinkOrder};
        return add(new Item(Kind.GLUE, -1, new int[] {width, 0, 0}, give, null, 0));
    }

    public int kern(int width) {
        argument(size(width));
        return add(new Item(Kind.KERN, -1, new int[] {width, 0, 0}, null, null, 0));
    }

    public int box(int box, int shift) {
        index(box >= 0 && box < packed.size());
        argument(size(shift));
        Packed inner = packed.get(box);
        int[] sizes = {inner.sizes[0].intValueExact(), inner.sizes[1].intValueExact(),
            inner.sizes[2].intValueExact()};
        return add(new Item(Kind.BOX, -1, sizes, null, inner, shift));
    }

    public boolean keep(int n) {
        if (n < 0 || list.size() < n) {
            return false;
        }
        list = new ArrayList<>(list.subList(0, n));
        return true;
    }

    public int items() {
        return list.size();
    }

    public int boxes() {
        return packed.size();
    }

    public int pack(boolean below, int how, int size, int greatest) {
        argument(how >= 0 && how <= 2 && size(size) && size(greatest));
        Packed box = new Packed();
        box.below = below;
        box.items = list;
        box.deep = 1;
        box.inAll = big(list.size());
        for (Item item : list) {
            if (item.kind == Kind.BOX) {
                box.deep = Math.max(box.deep, item.box.deep + 1);
                box.inAll = box.inAll.add(item.box.inAll);
            }
        }
        if (packed.size() == 100 || box.deep > 10) {
            throw new UnsupportedOperationException();
        }
        measure(box, greatest);
        fit(box, how, size);
        packed.add(box);
        list = new ArrayList<>();
        return packed.size() - 1;
    }

    private static void measure(Packed box, int greatest) {
        BigInteger length = ZERO;
        BigInteger height = ZERO;
        BigInteger width = ZERO;
        BigInteger depth = ZERO;
        for (Item item : box.items) {
            if (!box.below) {
                length = sized(length.add(item.size(0)));
            } else {
                length = sized(length.add(depth));
                length = sized(length.add(item.size(item.hasDepth() ? 1 : 0)));
                depth = item.hasDepth() ? item.size(2) : ZERO;
            }
            if (!item.hasDepth()) {
                continue;
            }
            BigInteger shift = big(item.shift);
            if (box.below) {
                width = item.running(0) ? width : width.max(sized(item.size(0).add(shift)));
            } else {
                height = item.running(1) ? height : height.max(sized(item.size(1).subtract(shift)));
                depth = item.running(2) ? depth : depth.max(sized(item.size(2).add(shift)));
            }
        }
        if (box.below && depth.compareTo(big(greatest)) > 0) {
            length = sized(length.add(depth).subtract(big(greatest)));
            depth = big(greatest);
        }
        box.sizes[0] = box.below ? width : length;
        box.sizes[1] = box.below ? length : height;
        box.sizes[2] = depth;
    }

    private static BigInteger giveOf(List<Item> items, int order, boolean shrinking) {
        BigInteger sum = ZERO;
        for (Item item : items) {
            if (item.kind == Kind.GLUE && item.give[shrinking ? 3 : 1] == order) {
                sum = sum.add(big(item.give[shrinking ? 2 : 0]));
            }
        }
        return sum;
    }

    private static void fit(Packed box, int how, int size) {
        int along = box.below ? 1 : 0;
        BigInteger length = box.sizes[along];
        for (int order = 0; order < 4; order++) {
            sized(giveOf(box.items, order, false));
            sized(giveOf(box.items, order, true));
        }
        box.excess = sized(how == 0 ? ZERO : how == 1 ? big(size).subtract(length) : big(size));
        box.sizes[along] = sized(length.add(box.excess));
        if (box.excess.signum() == 0) {
            return;
        }
        for (int order = 3; order >= 0 && box.total.signum() == 0; order--) {
            box.total = giveOf(box.items, order, box.excess.signum() < 0);
            box.order = box.total.signum() == 0 ? 0 : order;
        }
        BigInteger missing = box.excess.negate();
        if (missing.signum() > 0 && box.order == 0 && box.total.compareTo(missing) < 0) {
            box.overfull = missing.subtract(box.total);
        }
    }

    public int of(int box, int what) {
        index(box >= 0 && box < packed.size() && what >= 0 && what <= 10);
        Packed b = packed.get(box);
        BigInteger[] answers = {b.sizes[0], b.sizes[1], b.sizes[2], b.excess, big(b.order), b.total,
            badness(b), b.overfull, big(b.deep), big(b.items.size()), b.inAll.min(big(1000000))};
        return answers[what].intValueExact();
    }

    private static BigInteger badness(Packed box) {
        if (box.overfull.signum() > 0) {
            return big(1000000);
        }
        if (box.excess.signum() == 0 || box.order > 0) {
            return ZERO;
        }
        BigInteger t = box.excess.abs();
        BigInteger s = box.total;
        if (s.signum() == 0) {
            return big(10000);
        }
        BigInteger r = t;
        if (t.compareTo(big(7230584)) <= 0) {
            r = t.multiply(big(297)).divide(s);
        } else if (s.compareTo(big(1663497)) >= 0) {
            r = t.divide(s.divide(big(297)));
        }
        return r.compareTo(big(1290)) > 0 ? big(10000) : r.pow(3).add(big(131072)).divide(big(262144));
    }

    public int place(int box, int i) {
        index(box >= 0 && box < packed.size() && i >= 0 && i < packed.get(box).items.size());
        return placeOf(packed.get(box), i).intValueExact();
    }

    private static BigInteger placeOf(Packed box, int i) {
        BigInteger sum = ZERO;
        for (int k = 0; k < i; k++) {
            Item item = box.items.get(k);
            sum = sum.add(item.size(box.below && item.hasDepth() ? 1 : 0));
            if (box.below && (k < i - 1 || box.items.get(i).hasDepth())) {
                sum = sum.add(item.size(2));
            }
        }
        return sum.add(shareOf(box, box.items.subList(0, i)));
    }

    private static BigInteger shareOf(Packed box, List<Item> before) {
        if (box.total.signum() == 0) {
            return ZERO;
        }
        BigInteger taken = box.overfull.signum() > 0 ? box.total.negate() : box.excess;
        BigInteger give = giveOf(before, box.order, box.excess.signum() < 0);
        return new BigDecimal(give.multiply(taken))
            .divide(new BigDecimal(box.total), 0, RoundingMode.HALF_UP).toBigInteger();
    }

    public int lay(int box, int x, int y) {
        index(box >= 0 && box < packed.size());
        argument(size(x) && size(y));
        marks = new ArrayList<>();
        if (packed.get(box).inAll.compareTo(big(20000)) > 0) {
            return -1;
        }
        layOut(packed.get(box), big(x), big(y));
        if (marks.size() > 1000) {
            marks = new ArrayList<>();
            return -1;
        }
        return marks.size();
    }

    private void layOut(Packed box, BigInteger x, BigInteger y) {
        for (int i = 0; i < box.items.size(); i++) {
            Item item = box.items.get(i);
            if (!item.hasDepth()) {
                continue;
            }
            BigInteger place = placeOf(box, i);
            BigInteger itemX = x.add(place);
            BigInteger itemY = y.add(big(item.shift));
            if (box.below) {
                BigInteger top = y.subtract(box.sizes[1]);
                itemX = x.add(big(item.shift));
                itemY = top.add(place).add(item.size(1));
            }
            if (item.kind == Kind.BOX) {
                layOut(item.box, itemX, itemY);
            } else {
                tell(box, item, itemX, itemY);
            }
        }
    }

    private void tell(Packed box, Item item, BigInteger x, BigInteger y) {
        BigInteger[] sizes = new BigInteger[3];
        for (int what = 0; what < 3; what++) {
            boolean taken = item.running(what) && (what == 0) == box.below;
            sizes[what] = taken ? box.sizes[what] : item.size(what);
        }
        boolean seen = sizes[0].signum() > 0 && sizes[1].add(sizes[2]).signum() > 0;
        if (item.kind == Kind.LEAF || seen) {
            marks.add(new long[] {item.tag, x.longValueExact(), y.longValueExact(),
                sizes[0].longValueExact(), sizes[1].longValueExact(), sizes[2].longValueExact()});
        }
    }

    public long mark(int i, int what) {
        index(i >= 0 && i < marks.size() && what >= 0 && what <= 5);
        return marks.get(i)[what];
    }
}
