import java.util.ArrayList;
import java.util.Comparator;
import java.util.List;

/**
 * The document's words a second time, in another way than the program's: no line is kept, it is
 * sorted anew for every question. A refusal is an exception's class, thrown as the document says.
 */
final class PlainBook {
    static final class Entry {
        int number, owner, price, left, peak, shown, life, traded;
        int rank = -1;
        boolean buys;

        boolean takes(int p) {
            return price == 0 || (buys ? p <= price : p >= price);
        }

        int full() {
            return peak == 0 || peak > left ? left : peak;
        }
    }

    final List<Entry> entries = new ArrayList<>();
    final List<int[]> trades = new ArrayList<>();
    int phase = 0;
    int reference = 1000;
    int band = 0;
    int ranks = 0;
    long sum = 0;

    List<Entry> line(boolean buys) {
        List<Entry> line = new ArrayList<>();
        for (Entry e : entries) {
            if (e.rank >= 0 && e.buys == buys) {
                line.add(e);
            }
        }
        Comparator<Entry> byPrice = Comparator.comparingInt(e -> e.price == 0 ? 0 : buys ? 5000 - e.price : e.price);
        line.sort(byPrice.thenComparingInt(e -> e.rank));
        return line;
    }

    private static void argument(boolean fits) {
        if (!fits) {
            throw new IllegalArgumentException();
        }
    }

    private static void state(boolean fits) {
        if (!fits) {
            throw new IllegalStateException();
        }
    }

    private static boolean in(int x, int from, int to) {
        return from <= x && x <= to;
    }

    int place(int owner, boolean buys, int price, int quantity, int peak, int life) {
        argument(in(owner, 0, 9) && in(price, 0, 2000) && in(quantity, 1, 100000));
        argument(in(peak, 0, 100000) && in(life, 0, 2));
        argument(peak == 0 || (life == 0 && quantity <= 50L * peak));
        state(entries.size() < 250 && phase != 2 && (life == 0 || phase == 1));
        Entry e = new Entry();
        e.number = entries.size();
        e.owner = owner;
        e.buys = buys;
        e.price = price;
        e.left = quantity;
        e.peak = peak;
        e.life = life;
        entries.add(e);
        arrive(e);
        return e.number;
    }

    private void arrive(Entry e) {
        boolean stays = true;
        if (phase == 1) {
            if (e.life != 2 || reach(e) >= e.left) {
                while (e.left > 0 && meetOne(e)) {
                    continue;
                }
            }
            stays = e.left > 0 && e.life == 0 && (e.price != 0 || phase == 2);
        }
        if (stays) {
            e.shown = e.full();
            e.rank = ranks++;
        } else {
            over(e);
        }
    }

    private boolean outside(int price) {
        return band != 0 && (price > reference + band || price < reference - band);
    }

    private long reach(Entry e) {
        long all = 0;
        for (Entry o : line(!e.buys)) {
            if (!e.takes(o.price) || outside(o.price)) {
                return all;
            }
            all += o.left;
        }
        return all;
    }

    private boolean meetOne(Entry e) {
        List<Entry> others = line(!e.buys);
        if (others.isEmpty() || !e.takes(others.get(0).price)) {
            return false;
        }
        Entry o = others.get(0);
        if (outside(o.price)) {
            phase = 2;
            return false;
        }
        int q = e.left < o.shown ? e.left : o.shown;
        o.shown -= q;
        swap(e.buys ? e : o, e.buys ? o : e, o.price, q);
        if (o.left == 0) {
            over(o);
        } else if (o.shown == 0) {
            o.shown = o.full();
            o.rank = ranks++;
        }
        return true;
    }

    private void swap(Entry buyer, Entry seller, int price, int q) {
        buyer.left -= q;
        seller.left -= q;
        buyer.traded += q;
        seller.traded += q;
        sum += q;
        trades.add(new int[] {buyer.number, seller.number, price, q});
    }

    private static void over(Entry e) {
        e.left = 0;
        e.shown = 0;
        e.rank = -1;
    }

    int cancel(int order) {
        argument(in(order, 0, entries.size() - 1));
        state(entries.get(order).rank >= 0);
        int left = entries.get(order).left;
        over(entries.get(order));
        return left;
    }

    int cancelAll(int owner) {
        argument(in(owner, 0, 9));
        int n = 0;
        for (Entry e : entries) {
            if (e.owner == owner && e.rank >= 0) {
                over(e);
                n++;
            }
        }
        return n;
    }

    boolean amend(int order, int price, int quantity) {
        argument(in(order, 0, entries.size() - 1) && in(price, 0, 2000) && in(quantity, 1, 100000));
        Entry e = entries.get(order);
        argument(e.peak == 0 || quantity <= 50L * e.peak);
        state(e.rank >= 0 && phase != 2);
        if (price == e.price && quantity <= e.left) {
            e.left = quantity;
            if (e.shown > quantity) {
                e.shown = quantity;
            }
            return true;
        }
        e.rank = -1;
        e.price = price;
        e.left = quantity;
        arrive(e);
        return e.rank >= 0;
    }

    /** The price, the volume and the surplus. */
    long[] clearing() {
        long[] wanted = new long[2002];
        long[] offered = new long[2002];
        for (Entry e : entries) {
            if (e.rank >= 0 && e.buys) {
                wanted[e.price == 0 ? 2000 : e.price] += e.left;
            } else if (e.rank >= 0) {
                offered[e.price == 0 ? 1 : e.price] += e.left;
            }
        }
        for (int p = 1999; p >= 1; p--) {
            wanted[p] += wanted[p + 1];
        }
        for (int p = 2; p <= 2000; p++) {
            offered[p] += offered[p - 1];
        }
        int best = 0;
        for (int p = 2000; p >= 1; p--) {
            if (best == 0 || compare(p, best, wanted, offered) <= 0) {
                best = p;
            }
        }
        long volume = Math.min(wanted[best], offered[best]);
        return volume == 0 ? new long[] {-1, 0, 0} : new long[] {best, volume, wanted[best] - offered[best]};
    }

    private int compare(int p, int q, long[] wanted, long[] offered) {
        int c = Long.compare(Math.min(wanted[q], offered[q]), Math.min(wanted[p], offered[p]));
        if (c == 0) {
            c = Long.compare(Math.abs(wanted[p] - offered[p]), Math.abs(wanted[q] - offered[q]));
        }
        if (c == 0) {
            c = Integer.compare(Math.abs(p - reference), Math.abs(q - reference));
        }
        return c == 0 ? Integer.compare(p, q) : c;
    }

    long open() {
        state(phase != 1);
        long[] c = clearing();
        long still = c[1];
        while (still > 0) {
            Entry b = line(true).get(0);
            Entry s = line(false).get(0);
            int q = (int) Math.min(still, Math.min(b.left, s.left));
            swap(b, s, (int) c[0], q);
            if (b.left == 0) {
                over(b);
            }
            if (s.left == 0) {
                over(s);
            }
            still -= q;
        }
        if (c[1] > 0) {
            reference = (int) c[0];
        }
        for (Entry e : entries) {
            if (e.rank >= 0 && e.price == 0) {
                over(e);
            }
            e.shown = e.full();
        }
        phase = 1;
        return c[1];
    }

    int call() {
        int was = phase;
        phase = 0;
        return was;
    }

    int band(int newReference, int newBand) {
        argument(in(newReference, 1, 2000) && in(newBand, 0, 2000));
        int was = reference;
        reference = newReference;
        band = newBand;
        return was;
    }

    long depth(boolean buys, int price, boolean left) {
        argument(in(price, 0, 2000));
        long all = 0;
        for (Entry e : entries) {
            if (e.rank >= 0 && e.buys == buys && e.price == price) {
                all += left ? e.left : e.shown;
            }
        }
        return all;
    }

    int order(int order, int what) {
        argument(in(order, 0, entries.size() - 1) && in(what, 0, 8));
        Entry e = entries.get(order);
        return new int[] {e.owner, e.buys ? 1 : 0, e.price, e.left, e.shown, e.rank, e.life, e.traded, e.peak}[what];
    }

    long told(int what) {
        long[] all = {phase, reference, band, entries.size(), line(true).size(), line(false).size(), trades.size(), sum};
        return in(what, 0, 7) ? all[what] : -1;
    }
}
