import java.util.ArrayList;

/**
 * A book of orders that is called, cleared at the one price that moves most, and then goes on
 * order by order. The promises that it keeps are numbered in the document, DOC.md.
 */
public final class CallBook {
    public static final int NONE = -1;

    private static final int MOST_ORDERS = 250;
    private static final int LAST_OWNER = 9;
    private static final int LAST_PRICE = 2000;
    private static final int MOST_QUANTITY = 100000;
    private static final int MOST_PEAKS = 50;
    private static final int MOST_BAND = 2000;

    private static final int MARKET = 0;

    private static final int GOOD = 0;
    private static final int WHOLE = 2;

    private static final int CALL = 0;
    private static final int GOING_ON = 1;
    private static final int STOPPED = 2;

    private final ArrayList<Order> orders;
    private final Side buyers;
    private final Side sellers;
    private final TradeLog trades;
    private final Auction auction;
    private int phase;
    private int referencePrice;
    private int bandWidth;
    private int nextRank;

    public CallBook() {
        orders = new ArrayList<>();
        buyers = new Side();
        sellers = new Side();
        trades = new TradeLog();
        auction = new Auction();
        phase = CALL;
        referencePrice = 1000;
        bandWidth = 0;
        nextRank = 0;
    }

    public int place(int owner, boolean buys, int price, int quantity, int peak, int life)
            throws IllegalArgumentException, IllegalStateException {
        if (!isOwner(owner) || !isPriceOrMarket(price) || !isQuantity(quantity)) {
            throw new IllegalArgumentException();
        }
        if (!isPeak(peak) || !fitsPeak(quantity, peak) || !isLife(life)) {
            throw new IllegalArgumentException();
        }
        if (peak != 0 && life != GOOD) {
            throw new IllegalArgumentException();
        }
        boolean tooEarly = life != GOOD && phase != GOING_ON;
        if (orders.size() >= MOST_ORDERS || phase == STOPPED || tooEarly) {
            throw new IllegalStateException();
        }
        Order fresh = new Order(orders.size(), owner, buys, peak, life);
        fresh.ask(price, quantity);
        orders.add(fresh);
        come(fresh);
        return fresh.number;
    }

    public int cancel(int order) throws IllegalArgumentException, IllegalStateException {
        Order cancelled = known(order);
        if (!cancelled.rests()) {
            throw new IllegalStateException();
        }
        int left = cancelled.left;
        finish(cancelled);
        return left;
    }

    public int cancelAll(int owner) throws IllegalArgumentException {
        if (!isOwner(owner)) {
            throw new IllegalArgumentException();
        }
        int rested = 0;
        for (int i = 0; i < orders.size(); i++) {
            Order one = orders.get(i);
            if (one.owner == owner && one.rests()) {
                finish(one);
                rested++;
            }
        }
        return rested;
    }

    public boolean amend(int order, int price, int quantity)
            throws IllegalArgumentException, IllegalStateException {
        Order amended = known(order);
        if (!isPriceOrMarket(price) || !isQuantity(quantity) || !fitsPeak(quantity, amended.peak)) {
            throw new IllegalArgumentException();
        }
        if (!amended.rests() || phase == STOPPED) {
            throw new IllegalStateException();
        }
        if (price == amended.price && quantity <= amended.left) {
            amended.lessen(quantity);
        } else {
            side(amended.buys).leave(amended);
            amended.ask(price, quantity);
            come(amended);
        }
        return amended.rests();
    }

    public long open() throws IllegalStateException {
        if (phase == GOING_ON) {
            throw new IllegalStateException();
        }
        auction.workOut(buyers.line, sellers.line, referencePrice);
        if (auction.volume > 0) {
            tradeAtOnePrice(auction.price, auction.volume);
            referencePrice = auction.price;
        }
        for (int i = 0; i < orders.size(); i++) {
            startGoingOn(orders.get(i));
        }
        phase = GOING_ON;
        return auction.volume;
    }

    public int call() {
        int before = phase;
        phase = CALL;
        return before;
    }

    public int band(int reference, int band) throws IllegalArgumentException {
        if (reference < 1 || reference > LAST_PRICE || band < 0 || band > MOST_BAND) {
            throw new IllegalArgumentException();
        }
        int before = referencePrice;
        referencePrice = reference;
        bandWidth = band;
        return before;
    }

    public long clearing(int what) throws IllegalArgumentException {
        if (what < 0 || what > 2) {
            throw new IllegalArgumentException();
        }
        auction.workOut(buyers.line, sellers.line, referencePrice);
        if (what == 0) {
            return auction.price;
        }
        return what == 1 ? auction.volume : auction.surplus;
    }

    public int order(int order, int what) throws IllegalArgumentException {
        Order asked = known(order);
        switch (what) {
            case 0:
                return asked.owner;
            case 1:
                return asked.buys ? 1 : 0;
            case 2:
                return asked.price;
            case 3:
                return asked.left;
            case 4:
                return asked.shown;
            case 5:
                return asked.rank;
            case 6:
                return asked.life;
            case 7:
                return asked.traded;
            case 8:
                return asked.peak;
            default:
                throw new IllegalArgumentException();
        }
    }

    public int at(boolean buys, int i) {
        ArrayList<Order> line = side(buys).line;
        return i < 0 || i >= line.size() ? NONE : line.get(i).number;
    }

    public long depth(boolean buys, int price, boolean left) throws IllegalArgumentException {
        if (!isPriceOrMarket(price)) {
            throw new IllegalArgumentException();
        }
        ArrayList<Order> line = side(buys).line;
        long sum = 0;
        for (int i = 0; i < line.size(); i++) {
            Order one = line.get(i);
            if (one.price == price) {
                sum += left ? one.left : one.shown;
            }
        }
        return sum;
    }

    public int trade(int i, int what) {
        return trades.tell(i, what);
    }

    public long told(int what) {
        switch (what) {
            case 0:
                return phase;
            case 1:
                return referencePrice;
            case 2:
                return bandWidth;
            case 3:
                return orders.size();
            case 4:
                return buyers.line.size();
            case 5:
                return sellers.line.size();
            case 6:
                return trades.kept.size();
            case 7:
                return trades.total;
            default:
                return NONE;
        }
    }

    public int astray() {
        return astrayInLine(true) + astrayInLine(false) + astrayOutOfLine();
    }

    private static boolean isOwner(int owner) {
        return owner >= 0 && owner <= LAST_OWNER;
    }

    private static boolean isPriceOrMarket(int price) {
        return price >= MARKET && price <= LAST_PRICE;
    }

    private static boolean isQuantity(int quantity) {
        return quantity >= 1 && quantity <= MOST_QUANTITY;
    }

    private static boolean isPeak(int peak) {
        return peak >= 0 && peak <= MOST_QUANTITY;
    }

    private static boolean isLife(int life) {
        return life >= GOOD && life <= WHOLE;
    }

    private static boolean fitsPeak(int quantity, int peak) {
        return peak == 0 || quantity <= MOST_PEAKS * peak;
    }

    private Order known(int number) throws IllegalArgumentException {
        if (number < 0 || number >= orders.size()) {
            throw new IllegalArgumentException();
        }
        return orders.get(number);
    }

    private Side side(boolean buys) {
        return buys ? buyers : sellers;
    }

    private boolean isBeyondBand(int price) {
        return bandWidth != 0 && Math.abs(price - referencePrice) > bandWidth;
    }

    private void come(Order coming) {
        if (phase != GOING_ON) {
            rest(coming);
            return;
        }
        if (coming.life != WHOLE || couldGoWhole(coming)) {
            meet(coming);
        }
        boolean mayRest = coming.life == GOOD && (coming.price != MARKET || phase == STOPPED);
        if (coming.left > 0 && mayRest) {
            rest(coming);
        } else {
            finish(coming);
        }
    }

    private boolean couldGoWhole(Order coming) {
        ArrayList<Order> facing = side(!coming.buys).line;
        long available = 0;
        for (int i = 0; i < facing.size(); i++) {
            Order resting = facing.get(i);
            if (!coming.takes(resting.price) || isBeyondBand(resting.price)) {
                break;
            }
            available += resting.left;
        }
        return available >= coming.left;
    }

    private void meet(Order coming) {
        Side facing = side(!coming.buys);
        // Every trade takes at least 1 of the coming order, so it can't meet more often than this.
        for (int met = 0; met < MOST_QUANTITY && coming.left > 0; met++) {
            Order resting = facing.first();
            if (resting == null || !coming.takes(resting.price)) {
                return;
            }
            if (isBeyondBand(resting.price)) {
                phase = STOPPED;
                return;
            }
            tradeWithShown(coming, resting);
        }
    }

    private void tradeWithShown(Order coming, Order resting) {
        int quantity = Math.min(coming.left, resting.shown);
        resting.shown -= quantity;
        if (coming.buys) {
            exchange(coming, resting, resting.price, quantity);
        } else {
            exchange(resting, coming, resting.price, quantity);
        }
        if (resting.left == 0) {
            finish(resting);
        } else if (resting.shown == 0) {
            side(resting.buys).leave(resting);
            rest(resting);
        }
    }

    private void tradeAtOnePrice(int price, long volume) {
        long still = volume;
        // Every trade uses up at least one order, so all of them together bound the steps.
        for (int step = 0; step < MOST_ORDERS && still > 0; step++) {
            Order buyer = buyers.first();
            Order seller = sellers.first();
            if (buyer == null || seller == null) {
                return;
            }
            int quantity = (int) Math.min(still, Math.min(buyer.left, seller.left));
            exchange(buyer, seller, price, quantity);
            finishIfNothingLeft(buyer);
            finishIfNothingLeft(seller);
            still -= quantity;
        }
    }

    private void exchange(Order buyer, Order seller, int price, int quantity) {
        buyer.give(quantity);
        seller.give(quantity);
        trades.keep(buyer.number, seller.number, price, quantity);
    }

    private void startGoingOn(Order one) {
        if (!one.rests()) {
            return;
        }
        if (one.price == MARKET) {
            finish(one);
        } else {
            one.shown = one.mayShow();
        }
    }

    private void rest(Order one) {
        one.shown = one.mayShow();
        side(one.buys).enter(one, nextRank);
        nextRank++;
    }

    private void finish(Order one) {
        if (one.rests()) {
            side(one.buys).leave(one);
        }
        one.left = 0;
        one.shown = 0;
    }

    private void finishIfNothingLeft(Order one) {
        if (one.left == 0) {
            finish(one);
        }
    }

    private int astrayInLine(boolean buys) {
        ArrayList<Order> line = side(buys).line;
        int wrong = 0;
        for (int i = 0; i < line.size(); i++) {
            Order one = line.get(i);
            boolean misplaced = one.buys != buys || (i > 0 && !line.get(i - 1).standsBefore(one));
            if (misplaced || one.isWrongAtRest() || couldTrade(one)) {
                wrong++;
            }
        }
        return wrong;
    }

    private boolean couldTrade(Order one) {
        Order facing = side(!one.buys).first();
        return phase == GOING_ON && bandWidth == 0 && facing != null && one.takes(facing.price);
    }

    private int astrayOutOfLine() {
        int wrong = 0;
        int resting = 0;
        for (int i = 0; i < orders.size(); i++) {
            Order one = orders.get(i);
            if (one.rests()) {
                resting++;
            } else if (one.left != 0 || one.shown != 0) {
                wrong++;
            }
        }
        return wrong + Math.abs(resting - buyers.line.size() - sellers.line.size());
    }

    /** An order; it rests as long as it has a rank. */
    private static final class Order {
        final int number;
        final int owner;
        final boolean buys;
        final int peak;
        final int life;
        int price;
        int left;
        int shown;
        int rank;
        int traded;

        Order(int number, int owner, boolean buys, int peak, int life) {
            this.number = number;
            this.owner = owner;
            this.buys = buys;
            this.peak = peak;
            this.life = life;
            rank = NONE;
        }

        void ask(int newPrice, int quantity) {
            price = newPrice;
            left = quantity;
        }

        void lessen(int quantity) {
            left = quantity;
            shown = Math.min(shown, quantity);
        }

        void give(int quantity) {
            left -= quantity;
            traded += quantity;
        }

        boolean rests() {
            return rank != NONE;
        }

        int mayShow() {
            return peak == 0 ? left : Math.min(left, peak);
        }

        boolean takes(int otherPrice) {
            if (price == MARKET) {
                return true;
            }
            return buys ? otherPrice <= price : otherPrice >= price;
        }

        boolean standsBefore(Order other) {
            if (price == other.price) {
                return rank < other.rank;
            }
            if (price == MARKET || other.price == MARKET) {
                return price == MARKET;
            }
            return buys ? price > other.price : price < other.price;
        }

        boolean isWrongAtRest() {
            boolean shownWrong = shown < 1 || shown > mayShow() || (peak == 0 && shown != left);
            return !rests() || left < 1 || left > MOST_QUANTITY || shownWrong;
        }
    }

    /** The orders of one side that rest, in the order in which they stand. */
    private static final class Side {
        final ArrayList<Order> line;

        Side() {
            line = new ArrayList<>();
        }

        Order first() {
            return line.isEmpty() ? null : line.get(0);
        }

        void enter(Order one, int rank) {
            one.rank = rank;
            int place = line.size();
            // From the end, as an order with a new rank stands behind all others at its price.
            while (place > 0 && one.standsBefore(line.get(place - 1))) {
                place--;
            }
            line.add(place, one);
        }

        void leave(Order one) {
            one.rank = NONE;
            for (int i = 0; i < line.size(); i++) {
                if (line.get(i) == one) {
                    line.remove(i);
                    return;
                }
            }
        }
    }

    /** What clearing would do, worked out anew into the same object, so that asking makes none. */
    private static final class Auction {
        int price;
        long volume;
        long surplus;

        void workOut(ArrayList<Order> buyers, ArrayList<Order> sellers, int reference) {
            price = NONE;
            volume = 0;
            surplus = 0;
            int wanting = buyers.size();
            int offering = 0;
            long wanted = leftOf(buyers);
            long offered = 0;
            // As p rises, buyers drop out at the end of their line and sellers join at the front.
            for (int p = 1; p <= LAST_PRICE; p++) {
                while (wanting > 0 && !buyers.get(wanting - 1).takes(p)) {
                    wanting--;
                    wanted -= buyers.get(wanting).left;
                }
                while (offering < sellers.size() && sellers.get(offering).takes(p)) {
                    offered += sellers.get(offering).left;
                    offering++;
                }
                weigh(p, wanted, offered, reference);
            }
        }

        private static long leftOf(ArrayList<Order> line) {
            long sum = 0;
            for (int i = 0; i < line.size(); i++) {
                sum += line.get(i).left;
            }
            return sum;
        }

        private void weigh(int p, long wanted, long offered, int reference) {
            long moved = Math.min(wanted, offered);
            long over = wanted - offered;
            if (moved > 0 && isBetter(p, moved, over, reference)) {
                price = p;
                volume = moved;
                surplus = over;
            }
        }

        /** Prices are weighed from the lowest up, so an equal one that comes later is no better. */
        private boolean isBetter(int p, long moved, long over, int reference) {
            if (moved != volume) {
                return moved > volume;
            }
            if (Math.abs(over) != Math.abs(surplus)) {
                return Math.abs(over) < Math.abs(surplus);
            }
            return Math.abs(p - reference) < Math.abs(price - reference);
        }
    }

    /** One trade. */
    private static final class Trade {
        final int buyer;
        final int seller;
        final int price;
        final int quantity;

        Trade(int buyer, int seller, int price, int quantity) {
            this.buyer = buyer;
            this.seller = seller;
            this.price = price;
            this.quantity = quantity;
        }
    }

    /** All trades. */
    private static final class TradeLog {
        /**
         * Above what 512 calls can make: a trade while it is GOING ON uses up what an order shows,
         * at most 50 times for each that comes to rest, or the one that comes: 51 a call; a trade
         * of a clearing uses up one of the 250 orders. That is 26362 at most.
         */
        private static final int MOST_TRADES = 32768;

        final ArrayList<Trade> kept;
        long total;

        TradeLog() {
            kept = new ArrayList<>();
        }

        void keep(int buyer, int seller, int price, int quantity) {
            total += quantity;
            if (kept.size() < MOST_TRADES) {
                kept.add(new Trade(buyer, seller, price, quantity));
            }
        }

        int tell(int i, int what) {
            if (i < 0 || i >= kept.size()) {
                return NONE;
            }
            Trade one = kept.get(i);
            switch (what) {
                case 0:
                    return one.buyer;
                case 1:
                    return one.seller;
                case 2:
                    return one.price;
                case 3:
                    return one.quantity;
                default:
                    return NONE;
            }
        }
    }
}
