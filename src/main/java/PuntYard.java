import java.util.Arrays;

/** A yard that hires out punts by the hour; ../shared/DOC.md says what every call promises. */
public final class PuntYard {
    public static final int NONE = -1;

    private static final int NO_COIN = -1000000;
    private static final int DAYS = 100;
    private static final int MINUTES = 720;
    private static final int MOMENTS = 72000;
    private static final int KINDS = 4;
    private static final int PEOPLE = 10;
    private static final int LAWS = 5;
    private static final int BOATS = 20;
    private static final int HIRES = 120;
    private static final int TELLINGS = 400;
    private static final int IMAGES = 3;
    private static final int HOUR = 60;
    private static final int LAST_HOUR = 660;
    private static final int MOST_COIN = 999;
    private static final int MOST_HARM = 9999;
    private static final int MOST_FINE = 9999;
    private static final int MOST_REACHES = 65535;
    private static final int MOST_BOATS_KEPT = 12;
    private static final int MOST_WEEKS = 90;

    private final Reader reader = new Reader();
    private final Law[] laws = new Law[LAWS];
    private final Law bare = new Law();
    private int lawCount;
    private int faultPlace = NONE;

    private final State now = new State();
    private final State[] images = new State[IMAGES];
    private int imageCount;

    private final View view = new View(now.book);
    private final View otherView = new View(now.book);
    private final Bill drawn = new Bill();
    private final int[] asked = new int[Law.ASKED];
    private final int[] wetBy = new int[MINUTES + 1];
    // One row serves every search, so that calls make no rows of their own.
    private final int[] work = new int[Guides.ROW];

    public PuntYard() {
    }

    public int feed(int a, int b, int c, int d, int e) {
        if (!reader.hasRoom(20)) {
            return NONE;
        }
        reader.append(a);
        reader.append(b);
        reader.append(c);
        reader.append(d);
        reader.append(e);
        return reader.size;
    }

    public int law(int n, int day) {
        if (n < 0 || n > reader.size || !isDay(day)) {
            return -2;
        }
        if (lawCount >= LAWS) {
            return -3;
        }
        Law law = laws[lawCount];
        if (law == null) {
            law = new Law();
            laws[lawCount] = law;
        }
        law.clear(day);
        faultPlace = reader.read(n, law);
        if (faultPlace != NONE) {
            return NONE;
        }
        lawCount++;
        return lawCount - 1;
    }

    public int fault() {
        return faultPlace;
    }

    public int rule(int day, int what) {
        if (!isDay(day)) {
            return NONE;
        }
        if (what == 0) {
            return lawNumber(day);
        }
        return lawOf(day).look(what);
    }

    public boolean water(int day, int v) {
        if (!isDay(day) || !within(v, 0, 99)) {
            return false;
        }
        now.river.level[day] = v;
        return true;
    }

    public int rain(int day, int from, int to) {
        if (!isDay(day) || !isSpan(from, to, MINUTES)) {
            return NONE;
        }
        return now.river.addSpell(day, from, to);
    }

    public int boat(int kind) {
        return isKind(kind) ? now.book.addBoat(kind) : NONE;
    }

    public int free(int boat, int moment) {
        if (!isBoat(boat) || !isMoment(moment)) {
            return NONE;
        }
        return canGo(boat, moment) ? 1 : 0;
    }

    public int out(int boat, int who, int moment, int booked) {
        if (!isBoat(boat) || !isWho(who) || !isMoment(moment) || !within(booked, 1, MINUTES)) {
            return NONE;
        }
        if (moment % MINUTES + booked > MINUTES || !now.book.hasRoom() || !canGo(boat, moment)) {
            return NONE;
        }
        return now.book.addHire(boat, who, moment, booked);
    }

    public int back(int hire, int moment) {
        if (!canEnd(hire, moment)) {
            return NONE;
        }
        view.see(now.book.tellings);
        return view.isBack(hire) ? NONE : now.book.tell(Book.CAME, hire, moment);
    }

    public int mend(int hire, int moment) {
        if (!canEnd(hire, moment)) {
            return NONE;
        }
        view.see(now.book.tellings);
        int next = now.book.nextOut(hire);
        if (!view.isBack(hire) || (next != NONE && moment > next)) {
            return NONE;
        }
        return now.book.tell(Book.CAME, hire, moment);
    }

    public int swamp(int hire, int coin) {
        if (!isHire(hire) || !within(coin, 0, MOST_HARM)) {
            return NONE;
        }
        return now.book.tell(Book.SWAMPED, hire, coin);
    }

    public int cushions(int hire, int taken, int brought) {
        if (!isHire(hire) || !within(taken, 0, 9) || !within(brought, 0, 9)) {
            return NONE;
        }
        return now.book.tell(Book.CUSHIONED, hire, taken * 10 + brought);
    }

    public boolean weed(int rate) {
        if (!within(rate, 0, 99)) {
            return false;
        }
        now.river.weedRate = rate;
        return true;
    }

    public boolean cut(int day) {
        if (!isDay(day) || now.river.cuts[day] != 0) {
            return false;
        }
        now.river.cuts[day] = 1;
        return true;
    }

    public int hire(int hire, int what) {
        return isHire(hire) ? now.book.look(hire, what) : NONE;
    }

    public int known(int hire, int telling) {
        if (!seesHire(hire, telling)) {
            return -2;
        }
        return view.backAt[hire];
    }

    public int bill(int hire, int telling, int what) {
        if (!seesHire(hire, telling) || !view.isBack(hire)) {
            return NO_COIN;
        }
        int day = now.book.dayOf(hire);
        now.river.countWet(day, wetBy);
        drawBill(hire, lawOf(day));
        return drawn.look(what);
    }

    public int outs(int moment, int telling) {
        if (!isMoment(moment) || !isTelling(telling)) {
            return NONE;
        }
        view.see(telling);
        return view.outBits(moment);
    }

    public int takings(int day, int telling) {
        if (!isDay(day) || !isTelling(telling)) {
            return NO_COIN;
        }
        view.see(telling);
        now.river.countWet(day, wetBy);
        Law law = lawOf(day);
        int sum = 0;
        for (int h = 0; h < view.hires; h++) {
            if (isBackOn(h, day)) {
                drawBill(h, law);
                sum += drawn.owed();
            }
        }
        return sum;
    }

    public int differ(int one, int other, int k) {
        if (!isTelling(one) || !isTelling(other) || k < NONE) {
            return NONE;
        }
        view.see(one);
        otherView.see(other);
        int found = 0;
        for (int h = 0; h < now.book.hires; h++) {
            if (view.knowsAlike(otherView, h)) {
                continue;
            }
            if (found == k) {
                return h;
            }
            found++;
        }
        return k == NONE ? found : NONE;
    }

    public int cost(int who, int telling) {
        if (!isWho(who) || !isTelling(telling)) {
            return NONE;
        }
        view.see(telling);
        int sum = 0;
        for (int h = 0; h < view.hires; h++) {
            if (now.book.whoOf[h] == who && view.isBack(h)) {
                drawn.drawPrice(view, h, lawOf(now.book.dayOf(h)));
                sum += drawn.fullPrice - drawn.price;
            }
        }
        return sum;
    }

    public int worst(int day, int telling, int what) {
        if (!isDay(day) || !isTelling(telling) || !within(what, 0, 1)) {
            return NONE;
        }
        view.see(telling);
        now.river.countWet(day, wetBy);
        Arrays.fill(work, 0);
        Law law = lawOf(day);
        int sum = 0;
        for (int h = 0; h < view.hires; h++) {
            if (isBackOn(h, day)) {
                drawn.draw(view, h, law, wetBy);
                sum += drawn.wet;
                drawn.addRain(law, wetBy, work);
            }
        }
        int best = 0;
        for (int m = 1; m <= LAST_HOUR; m++) {
            if (work[m] > work[best]) {
                best = m;
            }
        }
        return what == 0 ? best : sum + work[best];
    }

    public int together(int one, int other, int day, int telling, int what) {
        if (!isWho(one) || !isWho(other) || one == other || !isDay(day)) {
            return NONE;
        }
        if (!isTelling(telling) || !within(what, 0, 1)) {
            return NONE;
        }
        view.see(telling);
        Arrays.fill(work, 0);
        view.markOut(one, 1, day, work);
        view.markOut(other, 2, day, work);
        int first = NONE;
        int minutes = 0;
        for (int m = 0; m < MINUTES; m++) {
            if (work[m] == 3) {
                first = minutes == 0 ? m : first;
                minutes++;
            }
        }
        return what == 0 ? minutes : first;
    }

    public int worn(int boat, int telling, int what) {
        if (!isBoat(boat) || !isTelling(telling) || !within(what, 0, 1)) {
            return NONE;
        }
        view.see(telling);
        return what == 0 ? view.minutesOfBoat(boat) : view.hiresOfBoat(boat);
    }

    public int old(int k, int telling) {
        if (!isBoat(k) || !isTelling(telling)) {
            return NONE;
        }
        view.see(telling);
        for (int b = 0; b < now.book.boats; b++) {
            work[b] = view.minutesOfBoat(b);
        }
        for (int b = 0; b < now.book.boats; b++) {
            if (boatsAheadOf(b) == k) {
                return b;
            }
        }
        return NONE;
    }

    public boolean doubt(int early, int late) {
        if (!within(early, 0, 240) || !within(late, 0, 240)) {
            return false;
        }
        now.book.early = early;
        now.book.late = late;
        return true;
    }

    public int queue(int kind, int k, int moment, int what) {
        if (!isKind(kind) || k < 1 || !isMoment(moment) || !within(what, 0, 1)) {
            return NONE;
        }
        view.see(now.book.tellings);
        int shift = what == 0 ? -now.book.early : now.book.late;
        int waits = 0;
        for (int b = 0; b < now.book.boats; b++) {
            if (now.book.kindOf[b] == kind) {
                insertWait(view.waitFor(b, moment, shift), waits);
                waits++;
            }
        }
        return k <= waits ? work[k - 1] : NONE;
    }

    public boolean chance(int hour, int n, int parts) {
        if (!within(hour, 0, Demand.HOURS - 1) || !within(n, 0, Demand.MOST) || !within(parts, 0, 10)) {
            return false;
        }
        now.demand.parts[hour * Demand.SIZES + n] = parts;
        return true;
    }

    public long keep(int k, int n, int what) {
        if (!within(k, 0, MOST_BOATS_KEPT) || !within(n, 1, 3) || !within(what, 0, 3) || !now.demand.isWhole()) {
            return NONE;
        }
        long upper = what < 2 ? now.demand.served(k, n) : now.demand.wanted();
        long lower = what < 2 ? Demand.WHOLE : 10;
        long divisor = Demand.commonDivisor(upper, lower);
        if (divisor <= 0) {
            return NONE;
        }
        return what % 2 == 0 ? upper / divisor : lower / divisor;
    }

    public int least(int n, int part) {
        if (!within(n, 1, 3) || !within(part, 0, 100) || !now.demand.isWhole()) {
            return NONE;
        }
        long due = part * now.demand.wanted() * (Demand.WHOLE / 10);
        for (int k = 0; k <= MOST_BOATS_KEPT; k++) {
            if (now.demand.served(k, n) * 100 >= due) {
                return k;
            }
        }
        return NONE;
    }

    public int protect(int k, int one, int other, int what) {
        if (!within(k, 0, MOST_BOATS_KEPT) || !isCoin(one) || !isCoin(other) || !within(what, 0, 1)) {
            return NONE;
        }
        if (!now.demand.isWhole()) {
            return NONE;
        }
        int best = 0;
        int most = NONE;
        for (int y = 0; y <= k; y++) {
            int mean = now.demand.meanCoin(k, y, one, other);
            if (mean > most) {
                most = mean;
                best = y;
            }
        }
        return what == 0 ? best : most;
    }

    public int roll(int minute, int takes) {
        if (!within(minute, 0, MINUTES - 1) || !within(takes, 1, 99)) {
            return NONE;
        }
        return now.roller.add(minute, takes);
    }

    public int rolled(int what) {
        boolean asksTurn = what >= 10 && what - 10 < now.roller.boats;
        if (what != 0 && !asksTurn) {
            return NONE;
        }
        now.roller.solve();
        return what == 0 ? now.roller.leastSum : now.roller.bestTurn[what - 10];
    }

    public int guide(int songs) {
        return within(songs, 0, 255) ? now.guides.addGuide(songs) : NONE;
    }

    public int party(int songs, int coin) {
        return within(songs, 0, 255) && isCoin(coin) ? now.guides.addParty(songs, coin) : NONE;
    }

    public int guided(int what) {
        boolean asksParty = what >= 10 && what - 10 < now.guides.parties;
        if (!within(what, 0, 1) && !asksParty) {
            return NONE;
        }
        now.guides.solve(work);
        if (asksParty) {
            return now.guides.guideOf[what - 10];
        }
        return what == 0 ? now.guides.served : now.guides.coinServed;
    }

    public int pay(int part) {
        if (!within(part, 0, 100)) {
            return NONE;
        }
        now.guides.solve(work);
        now.guides.payOut(part);
        return now.guides.served;
    }

    public int earned(int guide) {
        if (guide == NONE) {
            return now.guides.spread();
        }
        return guide >= 0 && guide < now.guides.guides ? now.guides.purse[guide] : NONE;
    }

    public boolean pass(int hire, int reaches, boolean clean) {
        if (!isHire(hire) || !within(reaches, 0, MOST_REACHES)) {
            return false;
        }
        now.book.reaches[hire] = reaches;
        now.book.clean[hire] = clean ? 1 : 0;
        return true;
    }

    public int pole(int hire) {
        return isHire(hire) ? now.book.reachesOfPole(hire) : NONE;
    }

    public boolean paint(int boat, int weeks, int coin) {
        if (!isBoat(boat) || !within(weeks, 0, 9) || !within(coin, 0, 99)) {
            return false;
        }
        return now.dock.setPaint(boat, weeks, coin);
    }

    public int painted(int berths, int what) {
        if (!within(berths, 1, 2) || !within(what, 0, 1)) {
            return NONE;
        }
        now.dock.solvePaint(berths);
        return what == 0 ? now.dock.best : now.dock.bestSet();
    }

    public boolean fail(int boat, int part, int coin) {
        if (!isBoat(boat) || !within(part, 0, 100) || !isCoin(coin)) {
            return false;
        }
        now.dock.failPart[boat] = part;
        now.dock.failCoin[boat] = coin;
        return true;
    }

    public int renew(int weeks, int what) {
        if (!within(weeks, 0, MOST_WEEKS) || !within(what, 0, 1)) {
            return NONE;
        }
        now.dock.solveRenewal(weeks);
        return what == 0 ? now.dock.best : now.dock.bestSet();
    }

    public int loyal(int coin) {
        return isCoin(coin) ? now.demand.addLoyal(coin) : NONE;
    }

    public int tout(int rival, int fine, int what) {
        if (!isCoin(rival) || !within(fine, 0, MOST_FINE) || !within(what, 0, 3)) {
            return NO_COIN;
        }
        int price = now.demand.bestPrice(rival);
        int staying = now.demand.staying(price, rival);
        int going = now.demand.loyals - staying;
        if (what == 0) {
            return price;
        }
        if (what == 1) {
            return price * staying;
        }
        if (what == 2) {
            return going;
        }
        return going > 0 ? rival * going - fine : 0;
    }

    public int nest(int reach, int from, int to) {
        if (!within(reach, 0, 15) || !isSpan(from, to, DAYS)) {
            return NONE;
        }
        return now.river.addNest(reach, from, to);
    }

    public int regatta(int day, int from, int to, int reaches) {
        if (!isDay(day) || !isSpan(from, to, MINUTES) || !within(reaches, 0, MOST_REACHES)) {
            return NONE;
        }
        return now.river.addRegatta(day, from, to, reaches);
    }

    public int barred(int hire, int telling) {
        if (!seesHire(hire, telling)) {
            return NONE;
        }
        int day = now.book.dayOf(hire);
        int from = now.book.outAt[hire] % MINUTES;
        int until = view.isBack(hire) ? from + view.minutesOf(hire) : MINUTES;
        int closed = now.river.nestedReaches(day) | now.river.racedReaches(day, from, until);
        return closed & now.book.reaches[hire];
    }

    public int image() {
        if (imageCount >= IMAGES) {
            return NONE;
        }
        State image = new State();
        image.take(now);
        images[imageCount] = image;
        imageCount++;
        return imageCount - 1;
    }

    public boolean restore(int image) {
        if (image < 0 || image >= imageCount || images[image] == null) {
            return false;
        }
        now.take(images[image]);
        return true;
    }

    public int count(int what) {
        if (what >= 200 && what < 200 + DAYS) {
            return now.river.weedOf(what - 200);
        }
        switch (what) {
            case 0: return lawCount;
            case 1: return now.book.boats;
            case 2: return now.book.hires;
            case 3: return now.book.tellings;
            case 4: return now.river.spells;
            case 5: return now.roller.boats;
            case 6: return now.guides.guides;
            case 7: return now.guides.parties;
            case 8: return reader.size;
            case 9: return now.demand.isWhole() ? 1 : 0;
            case 10: return now.demand.loyals;
            case 11: return now.river.nests;
            case 12: return now.river.regattas;
            case 13: return imageCount;
            default: return NONE;
        }
    }

    private static boolean within(int value, int low, int high) {
        return value >= low && value <= high;
    }

    private static boolean isSpan(int from, int to, int end) {
        return from >= 0 && from <= to && to < end;
    }

    private static boolean isDay(int day) {
        return day >= 0 && day < DAYS;
    }

    private static boolean isMoment(int moment) {
        return moment >= 0 && moment < MOMENTS;
    }

    private static boolean isKind(int kind) {
        return kind >= 0 && kind < KINDS;
    }

    private static boolean isWho(int who) {
        return who >= 0 && who < PEOPLE;
    }

    private static boolean isCoin(int coin) {
        return coin >= 0 && coin <= MOST_COIN;
    }

    private boolean isBoat(int boat) {
        return boat >= 0 && boat < now.book.boats;
    }

    private boolean isHire(int hire) {
        return hire >= 0 && hire < now.book.hires;
    }

    private boolean isTelling(int telling) {
        return telling >= 0 && telling <= now.book.tellings;
    }

    private int lawNumber(int day) {
        int number = NONE;
        int latest = 0;
        for (int i = 0; i < lawCount; i++) {
            Law law = laws[i];
            if (law != null && law.day <= day && law.day >= latest) {
                number = i;
                latest = law.day;
            }
        }
        return number;
    }

    private Law lawOf(int day) {
        int number = lawNumber(day);
        Law law = number == NONE ? null : laws[number];
        return law == null ? bare : law;
    }

    // Leaves all as it is known now in the view.
    private boolean canGo(int boat, int moment) {
        view.see(now.book.tellings);
        if (!view.allBackBy(boat, moment)) {
            return false;
        }
        ask(boat, moment);
        return !lawOf(moment / MINUTES).isShut(asked);
    }

    private boolean canEnd(int hire, int moment) {
        return isHire(hire) && isMoment(moment) && moment >= now.book.outAt[hire]
            && moment / MINUTES == now.book.dayOf(hire);
    }

    // Fills what conditions ask for, in the order of the words; the BOATS that are OUT are those of the view.
    private void ask(int boat, int moment) {
        int day = moment / MINUTES;
        int minute = moment % MINUTES;
        asked[0] = now.river.level[day];
        asked[1] = now.river.rains(day, minute) ? 1 : 0;
        asked[2] = day;
        asked[3] = day % 7;
        asked[4] = minute;
        asked[5] = Integer.bitCount(view.outBits(moment));
        asked[6] = now.book.kindOf[boat];
        asked[7] = now.river.weedOf(day);
    }

    private boolean seesHire(int hire, int telling) {
        if (!isHire(hire) || !isTelling(telling)) {
            return false;
        }
        view.see(telling);
        return hire < view.hires;
    }

    private boolean isBackOn(int hire, int day) {
        return now.book.dayOf(hire) == day && view.isBack(hire);
    }

    private void drawBill(int hire, Law law) {
        drawn.draw(view, hire, law, wetBy);
        if (view.swamped[hire] > 0) {
            ask(now.book.boatOf[hire], now.book.outAt[hire]);
            drawn.harm = view.swamped[hire] * law.harmPart(asked) / 100;
        }
    }

    private int boatsAheadOf(int boat) {
        int ahead = 0;
        for (int b = 0; b < now.book.boats; b++) {
            if (work[b] > work[boat] || (work[b] == work[boat] && b < boat)) {
                ahead++;
            }
        }
        return ahead;
    }

    private void insertWait(int wait, int waits) {
        int place = waits;
        for (; place > 0 && work[place - 1] > wait; place--) {
            work[place] = work[place - 1];
        }
        work[place] = wait;
    }

    /** The RULES of a text, as they hold; without any it is the LAW of a DAY that has none. */
    private static final class Law {
        static final int ASKED = 8;
        static final int RULES = 40;
        static final int BUSY = 0;
        static final int HARM = 1;
        static final int SHUT = 2;
        static final int NOT = -1;
        static final int AND = -2;
        static final int OR = -3;
        private static final int MOST_BUSY = 900;
        // A word, a sign and a digit need five bytes of the tape's 900, the words between them three with a blank.
        private static final int CODES = 300;

        int day;
        final int[] price = new int[KINDS];
        final int[] each = new int[KINDS];
        final int[] deposit = new int[KINDS];
        final int[] rights = new int[PEOPLE * KINDS];
        int late;
        int lateEach = HOUR;
        int grace;
        int rainPart;
        int cushion;
        private int rules;
        private final int[] sort = new int[RULES];
        private final int[] part = new int[RULES];
        private final int[] from = new int[RULES];
        private final int[] to = new int[RULES];
        int codes;
        private final int[] code = new int[CODES];

        Law() {
            Arrays.fill(each, HOUR);
        }

        void clear(int fromDay) {
            day = fromDay;
            Arrays.fill(price, 0);
            Arrays.fill(each, HOUR);
            Arrays.fill(deposit, 0);
            Arrays.fill(rights, 0);
            late = 0;
            lateEach = HOUR;
            grace = 0;
            rainPart = 0;
            cushion = 0;
            rules = 0;
            codes = 0;
        }

        // For BUSY the bounds are MINUTES, for HARM and SHUT places of codes.
        void addRule(int ruleSort, int rulePart, int ruleFrom, int ruleTo) {
            if (rules < RULES) {
                sort[rules] = ruleSort;
                part[rules] = rulePart;
                from[rules] = ruleFrom;
                to[rules] = ruleTo;
                rules++;
            }
        }

        void emit(int next) {
            if (codes < CODES) {
                code[codes] = next;
                codes++;
            }
        }

        static int testOf(int word, int sign, int number) {
            return (word * 3 + sign) * 1000 + number;
        }

        int look(int what) {
            int k = what % 10;
            if (what >= 100 && what < 200) {
                return k < KINDS ? rights[(what / 10 - 10) * KINDS + k] : NONE;
            }
            if (what >= 10 && what < 40) {
                if (k >= KINDS) {
                    return NONE;
                }
                return what < 20 ? price[k] : what < 30 ? each[k] : deposit[k];
            }
            switch (what) {
                case 40: return late;
                case 41: return lateEach;
                case 42: return grace;
                case 43: return rainPart;
                case 44: return cushion;
                default: return NONE;
            }
        }

        int busyParts(int minute) {
            int sum = 0;
            for (int i = 0; i < rules; i++) {
                if (sort[i] == BUSY && from[i] <= minute && minute <= to[i]) {
                    sum += part[i];
                }
            }
            return Math.min(sum, MOST_BUSY);
        }

        int harmPart(int[] asked) {
            for (int i = 0; i < rules; i++) {
                if (sort[i] == HARM && holds(from[i], to[i], asked)) {
                    return part[i];
                }
            }
            return 100;
        }

        boolean isShut(int[] asked) {
            for (int i = 0; i < rules; i++) {
                if (sort[i] == SHUT && holds(from[i], to[i], asked)) {
                    return true;
                }
            }
            return false;
        }

        // The codes stand behind what they join, so a pile of bits holds what is still to be joined:
        // two for each of the nine depths, far fewer than a long has.
        private boolean holds(int first, int end, int[] asked) {
            if (first >= end) {
                return true;
            }
            long pile = 0;
            for (int i = first; i < end && i < codes; i++) {
                int next = code[i];
                if (next >= 0) {
                    pile = pile << 1 | (passes(next, asked) ? 1 : 0);
                } else if (next == NOT) {
                    pile ^= 1;
                } else {
                    long top = pile & 1;
                    pile >>>= 1;
                    pile = next == OR ? pile | top : pile & (top | ~1L);
                }
            }
            return (pile & 1) == 1;
        }

        private static boolean passes(int test, int[] asked) {
            int word = test / 3000;
            if (word >= asked.length) {
                return false;
            }
            int number = test % 1000;
            int sign = test / 1000 % 3;
            return sign == 0 ? asked[word] < number : sign == 1 ? asked[word] == number : asked[word] > number;
        }
    }

    /** The tape, and what reads a LAW from it. */
    private static final class Reader {
        private static final int TAPE = 900;
        private static final int SLOT = 8;
        private static final int SLOTS = 23;
        // Words in slots of eight signs; the first eight are those that conditions ask for.
        private static final String WORDS = "water   rain    day     week    minute  out     kind    weed    price   busy    deposit late    right   cushion harm    shut    each    to      grace   if      or      and     not     ";
        private static final int RAIN = 1;
        private static final int PRICE = 8;
        private static final int BUSY = 9;
        private static final int DEPOSIT = 10;
        private static final int LATE = 11;
        private static final int RIGHT = 12;
        private static final int CUSHION = 13;
        private static final int HARM = 14;
        private static final int SHUT = 15;
        private static final int EACH = 16;
        private static final int TO = 17;
        private static final int GRACE = 18;
        private static final int IF = 19;
        private static final int OR = 20;
        private static final int AND = 21;
        private static final int NOT = 22;
        private static final int END = -1;
        private static final int ODD = -2;
        // No token is this, so that to take it is to refuse what stands there.
        private static final int NEVER = -3;
        private static final int NUMBER = 1000;
        private static final int MOST_SPAN = 240;
        private static final int MOST_OPEN = 8;

        private final int[] bytes = new int[TAPE];
        int size;
        // A token is a word's slot, a sign's byte, NUMBER and a number, ODD or END.
        private final int[] tokens = new int[TAPE + 1];
        private final int[] places = new int[TAPE + 1];
        private int at;
        private int refused;

        Reader() {
        }

        boolean hasRoom(int more) {
            return size + more <= TAPE;
        }

        void append(int four) {
            for (int shift = 24; shift >= 0 && size < TAPE; shift -= 8) {
                bytes[size] = four >> shift & 255;
                size++;
            }
        }

        // Answers the FAULT's place or NONE, and empties the tape.
        int read(int n, Law law) {
            scan(Math.min(n, size));
            at = 0;
            refused = NONE;
            for (int rules = 0; rules < Law.RULES && refused == NONE && tokens[at] != END; rules++) {
                readRule(law);
                take(';');
            }
            take(END);
            size = 0;
            return refused;
        }

        private void scan(int n) {
            int count = 0;
            int place = 0;
            for (int i = 0; i < TAPE && place < n; i++) {
                if (isBlank(bytes[place])) {
                    place++;
                } else {
                    int end = tokenEnd(place, n);
                    places[count] = place;
                    tokens[count] = tokenOf(place, end);
                    count++;
                    place = end;
                }
            }
            tokens[count] = END;
            places[count] = n;
        }

        private static boolean isBlank(int sign) {
            return sign == 32 || sign == 10;
        }

        private static boolean isLetter(int sign) {
            return sign >= 'a' && sign <= 'z';
        }

        private static boolean isDigit(int sign) {
            return sign >= '0' && sign <= '9';
        }

        private static boolean isComparison(int sign) {
            return sign == '<' || sign == '=' || sign == '>';
        }

        private int tokenEnd(int place, int n) {
            boolean isWord = isLetter(bytes[place]);
            boolean isNumber = isDigit(bytes[place]);
            for (int end = place + 1; end < n; end++) {
                boolean goesOn = isWord && isLetter(bytes[end]) || isNumber && isDigit(bytes[end]);
                if (!goesOn) {
                    return end;
                }
            }
            return n;
        }

        private int tokenOf(int place, int end) {
            int first = bytes[place];
            if (isDigit(first)) {
                return numberOf(place, end);
            }
            if (isLetter(first)) {
                return slotOf(place, end);
            }
            return first == ';' || first == '(' || first == ')' || isComparison(first) ? first : ODD;
        }

        private int slotOf(int place, int end) {
            if (end - place >= SLOT) {
                return ODD;
            }
            for (int slot = 0; slot < SLOTS; slot++) {
                if (isInSlot(slot, place, end)) {
                    return slot;
                }
            }
            return ODD;
        }

        private boolean isInSlot(int slot, int place, int end) {
            for (int i = 0; i < SLOT; i++) {
                int sign = place + i < end ? bytes[place + i] : ' ';
                if (WORDS.charAt(slot * SLOT + i) != sign) {
                    return false;
                }
            }
            return true;
        }

        private int numberOf(int place, int end) {
            if (end - place > 3) {
                return ODD;
            }
            int value = 0;
            for (int i = place; i < end; i++) {
                value = value * 10 + bytes[i] - '0';
            }
            return NUMBER + value;
        }

        // Once a token is refused nothing more is taken, so that readers need not look behind each.
        private void take(int token) {
            if (refused == NONE && tokens[at] != token) {
                refused = places[at];
            } else if (refused == NONE && token != END) {
                at++;
            }
        }

        // Answers a number from low to high in any case, so that it may be an index.
        private int takeNumber(int low, int high) {
            int value = tokens[at] - NUMBER;
            boolean isSo = value >= low && value <= high;
            take(isSo ? tokens[at] : NEVER);
            return isSo ? value : low;
        }

        private void readRule(Law law) {
            int head = tokens[at];
            boolean isHead = head == RAIN || head >= PRICE && head <= SHUT;
            take(isHead ? head : NEVER);
            switch (head) {
                case PRICE: readPrice(law); break;
                case BUSY: readBusy(law); break;
                case DEPOSIT: readDeposit(law); break;
                case LATE: readLate(law); break;
                case RAIN: law.rainPart = takeNumber(0, 100); break;
                case RIGHT: readRight(law); break;
                case CUSHION: law.cushion = takeNumber(0, MOST_COIN); break;
                case HARM: readHarm(law); break;
                case SHUT: readShut(law); break;
                default: break;
            }
        }

        private void readPrice(Law law) {
            int kind = takeNumber(0, KINDS - 1);
            law.price[kind] = takeNumber(0, MOST_COIN);
            take(EACH);
            law.each[kind] = takeNumber(1, MOST_SPAN);
        }

        private void readBusy(Law law) {
            int from = takeNumber(0, MINUTES - 1);
            take(TO);
            int to = takeNumber(from, MINUTES - 1);
            law.addRule(Law.BUSY, takeNumber(0, 100), from, to);
        }

        private void readDeposit(Law law) {
            int kind = takeNumber(0, KINDS - 1);
            law.deposit[kind] = takeNumber(0, MOST_COIN);
        }

        private void readLate(Law law) {
            law.late = takeNumber(0, MOST_COIN);
            take(EACH);
            law.lateEach = takeNumber(1, MOST_SPAN);
            take(GRACE);
            law.grace = takeNumber(0, MOST_SPAN);
        }

        private void readRight(Law law) {
            int who = takeNumber(0, PEOPLE - 1);
            int kind = takeNumber(0, KINDS - 1);
            law.rights[who * KINDS + kind] = takeNumber(1, MOST_SPAN);
        }

        private void readHarm(Law law) {
            int part = takeNumber(0, 100);
            int first = law.codes;
            if (tokens[at] == IF) {
                take(IF);
                readAny(law, 0);
            }
            law.addRule(Law.HARM, part, first, law.codes);
        }

        private void readShut(Law law) {
            int first = law.codes;
            take(IF);
            readAny(law, 0);
            law.addRule(Law.SHUT, 0, first, law.codes);
        }

        private void readAny(Law law, int open) {
            readAll(law, open);
            for (int i = 0; i < TAPE && refused == NONE && tokens[at] == OR; i++) {
                take(OR);
                readAll(law, open);
                law.emit(Law.OR);
            }
        }

        private void readAll(Law law, int open) {
            readOne(law, open);
            for (int i = 0; i < TAPE && refused == NONE && tokens[at] == AND; i++) {
                take(AND);
                readOne(law, open);
                law.emit(Law.AND);
            }
        }

        // The ninth open is no word that conditions ask for, and so it is refused as such.
        private void readOne(Law law, int open) {
            int inner = open;
            for (; inner < MOST_OPEN && refused == NONE && tokens[at] == NOT; inner++) {
                take(NOT);
            }
            if (inner < MOST_OPEN && refused == NONE && tokens[at] == '(') {
                take('(');
                readAny(law, inner + 1);
                take(')');
            } else {
                int word = tokens[at];
                take(word >= 0 && word < Law.ASKED ? word : NEVER);
                int sign = tokens[at];
                take(isComparison(sign) ? sign : NEVER);
                int number = tokens[at];
                take(number >= NUMBER ? number : NEVER);
                law.emit(Law.testOf(word, sign - '<', number - NUMBER));
            }
            if ((inner - open) % 2 == 1) {
                law.emit(Law.NOT);
            }
        }
    }

    /** All that an IMAGE keeps. */
    private static final class State {
        final Book book = new Book();
        final River river = new River();
        final Demand demand = new Demand();
        final Roller roller = new Roller();
        final Guides guides = new Guides();
        final Dock dock = new Dock();

        State() {
        }

        void take(State other) {
            book.take(other.book);
            river.take(other.river);
            demand.take(other.demand);
            roller.take(other.roller);
            guides.take(other.guides);
            dock.take(other.dock);
        }
    }

    /** BOATS, HIRES and what was told of them, in the order of the TELLINGS. */
    private static final class Book {
        static final int WENT = 0;
        static final int CAME = 1;
        static final int SWAMPED = 2;
        static final int CUSHIONED = 3;

        int boats;
        final int[] kindOf = new int[BOATS];
        int hires;
        final int[] boatOf = new int[HIRES];
        final int[] whoOf = new int[HIRES];
        final int[] outAt = new int[HIRES];
        final int[] bookedFor = new int[HIRES];
        final int[] toldBy = new int[HIRES];
        final int[] reaches = new int[HIRES];
        final int[] clean = new int[HIRES];
        int tellings;
        final int[] deed = new int[TELLINGS];
        final int[] subject = new int[TELLINGS];
        final int[] value = new int[TELLINGS];
        int early;
        int late;

        Book() {
        }

        void take(Book other) {
            boats = other.boats;
            hires = other.hires;
            tellings = other.tellings;
            early = other.early;
            late = other.late;
            System.arraycopy(other.kindOf, 0, kindOf, 0, BOATS);
            System.arraycopy(other.boatOf, 0, boatOf, 0, HIRES);
            System.arraycopy(other.whoOf, 0, whoOf, 0, HIRES);
            System.arraycopy(other.outAt, 0, outAt, 0, HIRES);
            System.arraycopy(other.bookedFor, 0, bookedFor, 0, HIRES);
            System.arraycopy(other.toldBy, 0, toldBy, 0, HIRES);
            System.arraycopy(other.reaches, 0, reaches, 0, HIRES);
            System.arraycopy(other.clean, 0, clean, 0, HIRES);
            System.arraycopy(other.deed, 0, deed, 0, TELLINGS);
            System.arraycopy(other.subject, 0, subject, 0, TELLINGS);
            System.arraycopy(other.value, 0, value, 0, TELLINGS);
        }

        int addBoat(int kind) {
            if (boats >= BOATS) {
                return NONE;
            }
            kindOf[boats] = kind;
            boats++;
            return boats - 1;
        }

        boolean hasRoom() {
            return hires < HIRES && tellings < TELLINGS;
        }

        int addHire(int boat, int who, int moment, int booked) {
            if (!hasRoom()) {
                return NONE;
            }
            int hire = hires;
            boatOf[hire] = boat;
            whoOf[hire] = who;
            outAt[hire] = moment;
            bookedFor[hire] = booked;
            reaches[hire] = 0;
            clean[hire] = 0;
            hires++;
            toldBy[hire] = tell(WENT, hire, moment);
            return hire;
        }

        int tell(int what, int hire, int told) {
            if (tellings >= TELLINGS) {
                return NONE;
            }
            deed[tellings] = what;
            subject[tellings] = hire;
            value[tellings] = told;
            tellings++;
            return tellings;
        }

        int look(int hire, int what) {
            switch (what) {
                case 0: return boatOf[hire];
                case 1: return whoOf[hire];
                case 2: return outAt[hire];
                case 3: return bookedFor[hire];
                case 4: return toldBy[hire];
                case 5: return reaches[hire];
                case 6: return clean[hire];
                default: return NONE;
            }
        }

        int dayOf(int hire) {
            return outAt[hire] / MINUTES;
        }

        int kindOfHire(int hire) {
            return kindOf[boatOf[hire]];
        }

        // A BOAT goes OUT only when all its HIRES are back, so its HIRES follow one another by number.
        int nextOut(int hire) {
            for (int h = hire + 1; h < hires; h++) {
                if (boatOf[h] == boatOf[hire]) {
                    return outAt[h];
                }
            }
            return NONE;
        }

        int reachesOfPole(int hire) {
            int left = reaches[hire];
            for (int h = 0; h < hires; h++) {
                if (clean[h] == 1 && outAt[h] > outAt[hire]) {
                    left &= ~reaches[h];
                }
            }
            return left;
        }
    }

    /** The HIRES AS KNOWN by a TELLING. */
    private static final class View {
        private final Book book;
        int hires;
        final int[] backAt = new int[HIRES];
        final int[] swamped = new int[HIRES];
        // Ten times those that were taken and those that were brought.
        final int[] cushioned = new int[HIRES];

        View(Book book) {
            this.book = book;
        }

        void see(int telling) {
            hires = 0;
            for (int t = 0; t < telling && t < book.tellings; t++) {
                learn(book.deed[t], book.subject[t], book.value[t]);
            }
        }

        private void learn(int deed, int hire, int value) {
            switch (deed) {
                case Book.WENT:
                    backAt[hire] = NONE;
                    swamped[hire] = 0;
                    cushioned[hire] = 0;
                    hires = hire + 1;
                    break;
                case Book.CAME: backAt[hire] = value; break;
                case Book.SWAMPED: swamped[hire] = value; break;
                default: cushioned[hire] = value; break;
            }
        }

        boolean isBack(int hire) {
            return backAt[hire] != NONE;
        }

        int minutesOf(int hire) {
            return backAt[hire] - book.outAt[hire];
        }

        private boolean isAway(int hire, int moment) {
            return book.outAt[hire] <= moment && (backAt[hire] == NONE || backAt[hire] > moment);
        }

        int outBits(int moment) {
            int bits = 0;
            for (int h = 0; h < hires; h++) {
                if (isAway(h, moment)) {
                    bits |= 1 << book.boatOf[h];
                }
            }
            return bits;
        }

        boolean allBackBy(int boat, int moment) {
            for (int h = 0; h < hires; h++) {
                if (book.boatOf[h] == boat && (backAt[h] == NONE || backAt[h] > moment)) {
                    return false;
                }
            }
            return true;
        }

        boolean knowsAlike(View other, int hire) {
            boolean here = hire < hires;
            boolean there = hire < other.hires;
            if (!here || !there) {
                return here == there;
            }
            return backAt[hire] == other.backAt[hire] && swamped[hire] == other.swamped[hire]
                && cushioned[hire] == other.cushioned[hire];
        }

        // Each HIRE takes all it can of the right, so what is left is less the minutes of all ahead of it.
        int freeMinutes(int hire, Law law) {
            int kind = book.kindOfHire(hire);
            int left = law.rights[book.whoOf[hire] * KINDS + kind];
            for (int h = 0; h < hires && left > 0; h++) {
                if (isBack(h) && sharesRight(h, hire) && isAhead(h, hire)) {
                    left -= minutesOf(h);
                }
            }
            return Math.min(minutesOf(hire), Math.max(left, 0));
        }

        private boolean sharesRight(int one, int other) {
            return book.whoOf[one] == book.whoOf[other] && book.dayOf(one) == book.dayOf(other)
                && book.kindOfHire(one) == book.kindOfHire(other);
        }

        private boolean isAhead(int one, int other) {
            int order = Integer.compare(book.outAt[one], book.outAt[other]);
            return order < 0 || (order == 0 && one < other);
        }

        void markOut(int who, int bit, int day, int[] row) {
            int first = day * MINUTES;
            int end = first + MINUTES;
            for (int h = 0; h < hires; h++) {
                if (book.whoOf[h] == who) {
                    int from = Math.max(book.outAt[h], first);
                    int until = isBack(h) ? Math.min(backAt[h], end) : end;
                    for (int m = from; m < until; m++) {
                        row[m - first] |= bit;
                    }
                }
            }
        }

        int minutesOfBoat(int boat) {
            int sum = 0;
            for (int h = 0; h < hires; h++) {
                sum += book.boatOf[h] == boat && isBack(h) ? minutesOf(h) : 0;
            }
            return sum;
        }

        int hiresOfBoat(int boat) {
            int sum = 0;
            for (int h = 0; h < hires; h++) {
                sum += book.boatOf[h] == boat && isBack(h) ? 1 : 0;
            }
            return sum;
        }

        int waitFor(int boat, int moment, int shift) {
            for (int h = 0; h < hires; h++) {
                if (book.boatOf[h] == boat && isAway(h, moment)) {
                    return Math.max(0, book.outAt[h] + book.bookedFor[h] + shift - moment);
                }
            }
            return 0;
        }
    }

    /** The BILL that was drawn last. */
    private static final class Bill {
        private int minutes;
        private int spared;
        int fullPrice;
        int price;
        private int lateCoin;
        int wet;
        int harm;
        private int cushionCoin;
        private int deposit;
        private int from;

        Bill() {
        }

        void drawPrice(View view, int hire, Law law) {
            int kind = view.book.kindOfHire(hire);
            from = view.book.outAt[hire] % MINUTES;
            minutes = view.minutesOf(hire);
            spared = view.freeMinutes(hire, law);
            int busy = law.busyParts(from);
            price = raised(law.price[kind] * begun(minutes - spared, law.each[kind]), busy);
            fullPrice = raised(law.price[kind] * begun(minutes, law.each[kind]), busy);
        }

        // HARM is 0 till it is asked for: only a swamped BOAT needs the conditions.
        void draw(View view, int hire, Law law, int[] wetBy) {
            drawPrice(view, hire, law);
            int beyond = minutes - view.book.bookedFor[hire];
            lateCoin = beyond > law.grace ? law.late * begun(beyond, law.lateEach) : 0;
            wet = wetCoin(law.rainPart, wetBy[from + minutes] - wetBy[from]);
            harm = 0;
            int lost = view.cushioned[hire] / 10 - view.cushioned[hire] % 10;
            cushionCoin = law.cushion * Math.max(lost, 0);
            deposit = law.deposit[view.book.kindOfHire(hire)];
        }

        private static int begun(int span, int each) {
            return each > 0 && span > 0 ? (span - 1) / each + 1 : 0;
        }

        private static int raised(int coin, int busy) {
            return coin + coin * busy / 100;
        }

        private int wetCoin(int part, int wetMinutes) {
            return minutes > 0 ? (int) ((long) price * part * wetMinutes / (100L * minutes)) : 0;
        }

        // Only hours that touch the HIRE can add to its WET.
        void addRain(Law law, int[] wetBy, int[] more) {
            int until = from + minutes;
            for (int m = Math.max(0, from - HOUR + 1); m < until && m <= LAST_HOUR; m++) {
                int first = Math.max(m, from);
                int end = Math.min(m + HOUR, until);
                int dry = end - first - (wetBy[end] - wetBy[first]);
                more[m] += wetCoin(law.rainPart, wetBy[until] - wetBy[from] + dry) - wet;
            }
        }

        int owed() {
            return price + lateCoin + harm + cushionCoin - wet;
        }

        int look(int what) {
            switch (what) {
                case 0: return minutes;
                case 1: return spared;
                case 2: return price;
                case 3: return lateCoin;
                case 4: return wet;
                case 5: return harm;
                case 6: return owed();
                case 7: return Math.max(0, deposit - lateCoin - harm - cushionCoin);
                case 8: return cushionCoin;
                default: return NO_COIN;
            }
        }
    }

    /** WATER, rain and WEED, and what bars REACHES of the river. */
    private static final class River {
        private static final int SPELLS = 40;
        private static final int NESTS = 20;
        private static final int REGATTAS = 10;
        private static final int MOST_WEED = 999;

        final int[] level = new int[DAYS];
        int spells;
        private final int[] spellDay = new int[SPELLS];
        private final int[] spellFrom = new int[SPELLS];
        private final int[] spellTo = new int[SPELLS];
        int weedRate;
        final int[] cuts = new int[DAYS];
        int nests;
        private final int[] nestReach = new int[NESTS];
        private final int[] nestFrom = new int[NESTS];
        private final int[] nestTo = new int[NESTS];
        int regattas;
        private final int[] raceDay = new int[REGATTAS];
        private final int[] raceFrom = new int[REGATTAS];
        private final int[] raceTo = new int[REGATTAS];
        private final int[] raceReaches = new int[REGATTAS];

        River() {
            Arrays.fill(level, 50);
        }

        void take(River other) {
            spells = other.spells;
            weedRate = other.weedRate;
            nests = other.nests;
            regattas = other.regattas;
            System.arraycopy(other.level, 0, level, 0, DAYS);
            System.arraycopy(other.cuts, 0, cuts, 0, DAYS);
            System.arraycopy(other.spellDay, 0, spellDay, 0, SPELLS);
            System.arraycopy(other.spellFrom, 0, spellFrom, 0, SPELLS);
            System.arraycopy(other.spellTo, 0, spellTo, 0, SPELLS);
            System.arraycopy(other.nestReach, 0, nestReach, 0, NESTS);
            System.arraycopy(other.nestFrom, 0, nestFrom, 0, NESTS);
            System.arraycopy(other.nestTo, 0, nestTo, 0, NESTS);
            System.arraycopy(other.raceDay, 0, raceDay, 0, REGATTAS);
            System.arraycopy(other.raceFrom, 0, raceFrom, 0, REGATTAS);
            System.arraycopy(other.raceTo, 0, raceTo, 0, REGATTAS);
            System.arraycopy(other.raceReaches, 0, raceReaches, 0, REGATTAS);
        }

        int addSpell(int day, int from, int to) {
            if (spells >= SPELLS) {
                return NONE;
            }
            spellDay[spells] = day;
            spellFrom[spells] = from;
            spellTo[spells] = to;
            spells++;
            return spells;
        }

        int addNest(int reach, int from, int to) {
            if (nests >= NESTS) {
                return NONE;
            }
            nestReach[nests] = reach;
            nestFrom[nests] = from;
            nestTo[nests] = to;
            nests++;
            return nests;
        }

        int addRegatta(int day, int from, int to, int reaches) {
            if (regattas >= REGATTAS) {
                return NONE;
            }
            raceDay[regattas] = day;
            raceFrom[regattas] = from;
            raceTo[regattas] = to;
            raceReaches[regattas] = reaches;
            regattas++;
            return regattas;
        }

        boolean rains(int day, int minute) {
            for (int i = 0; i < spells; i++) {
                if (spellDay[i] == day && spellFrom[i] <= minute && minute <= spellTo[i]) {
                    return true;
                }
            }
            return false;
        }

        // Fills how many MINUTES of a DAY ahead of each are wet, so that spans are had by one subtraction.
        void countWet(int day, int[] wetBy) {
            Arrays.fill(wetBy, 0);
            for (int i = 0; i < spells; i++) {
                if (spellDay[i] == day) {
                    for (int m = spellFrom[i]; m <= spellTo[i]; m++) {
                        wetBy[m + 1] = 1;
                    }
                }
            }
            for (int m = 1; m < wetBy.length; m++) {
                wetBy[m] += wetBy[m - 1];
            }
        }

        int weedOf(int day) {
            int since = 0;
            for (int d = day; d > 0 && cuts[d] == 0; d--) {
                since++;
            }
            return Math.min(weedRate * since, MOST_WEED);
        }

        int nestedReaches(int day) {
            int bits = 0;
            for (int i = 0; i < nests; i++) {
                if (nestFrom[i] <= day && day <= nestTo[i]) {
                    bits |= 1 << nestReach[i];
                }
            }
            return bits;
        }

        int racedReaches(int day, int from, int until) {
            int bits = 0;
            for (int i = 0; i < regattas; i++) {
                if (raceDay[i] == day && Math.max(raceFrom[i], from) < Math.min(raceTo[i] + 1, until)) {
                    bits |= raceReaches[i];
                }
            }
            return bits;
        }
    }

    /** CHANCES of parties that come, and LOYAL parties that stay. */
    private static final class Demand {
        static final int HOURS = 12;
        static final int MOST = 5;
        static final int SIZES = 6;
        static final long WHOLE = 1000000000000L;
        private static final int STATES = 36;
        private static final int LOYALS = 12;

        final int[] parts = new int[HOURS * SIZES];
        int loyals;
        private final int[] patience = new int[LOYALS];
        private final long[] weight = new long[STATES];
        private final long[] nextWeight = new long[STATES];

        Demand() {
        }

        void take(Demand other) {
            loyals = other.loyals;
            System.arraycopy(other.parts, 0, parts, 0, HOURS * SIZES);
            System.arraycopy(other.patience, 0, patience, 0, LOYALS);
        }

        boolean isWhole() {
            for (int hour = 0; hour < HOURS; hour++) {
                int sum = 0;
                for (int p = 0; p < SIZES; p++) {
                    sum += parts[hour * SIZES + p];
                }
                if (sum != 10) {
                    return false;
                }
            }
            return true;
        }

        // In tenths.
        int wanted() {
            int sum = 0;
            for (int i = 0; i < HOURS * SIZES; i++) {
                sum += parts[i] * (i % SIZES);
            }
            return sum;
        }

        // In parts of WHOLE: each hour divides by ten once more.
        long served(int k, int n) {
            Arrays.fill(weight, 0);
            weight[0] = 1;
            long sum = 0;
            for (int hour = 0; hour < HOURS; hour++) {
                Arrays.fill(nextWeight, 0);
                sum *= 10;
                for (int state = 0; state < STATES; state++) {
                    if (weight[state] > 0) {
                        sum += weight[state] * serveHour(hour, state, k, n);
                    }
                }
                System.arraycopy(nextWeight, 0, weight, 0, STATES);
            }
            return sum;
        }

        // A state is six times the boats taken an hour ago and those taken two hours ago, as far as they're still away.
        private int serveHour(int hour, int state, int k, int n) {
            int hourAgo = state / SIZES;
            int there = Math.max(0, k - hourAgo - state % SIZES);
            int sum = 0;
            for (int p = 0; p < SIZES; p++) {
                int part = parts[hour * SIZES + p];
                int taken = Math.min(p, there);
                int next = (n >= 2 ? taken * SIZES : 0) + (n >= 3 ? hourAgo : 0);
                nextWeight[next] += weight[state] * part;
                sum += part * taken;
            }
            return sum;
        }

        static long commonDivisor(long one, long other) {
            long a = one;
            long b = other;
            for (int i = 0; i < 200 && b != 0; i++) {
                long rest = a % b;
                a = b;
                b = rest;
            }
            return a;
        }

        // In hundredths: a tenth of hour 0 times a tenth of hour 1.
        int meanCoin(int k, int y, int one, int other) {
            int sum = 0;
            for (int p = 0; p < SIZES; p++) {
                int first = Math.min(p, k - y);
                for (int q = 0; q < SIZES; q++) {
                    int second = Math.min(q, k - first);
                    sum += parts[p] * parts[SIZES + q] * (first * one + second * other);
                }
            }
            return sum;
        }

        int addLoyal(int coin) {
            if (loyals >= LOYALS) {
                return NONE;
            }
            patience[loyals] = coin;
            loyals++;
            return loyals;
        }

        int staying(int price, int rival) {
            int sum = 0;
            for (int i = 0; i < loyals; i++) {
                sum += price - rival <= patience[i] ? 1 : 0;
            }
            return sum;
        }

        int bestPrice(int rival) {
            int best = 0;
            int most = 0;
            for (int price = 0; price <= MOST_COIN; price++) {
                int income = price * staying(price, rival);
                if (income > most) {
                    most = income;
                    best = price;
                }
            }
            return best;
        }
    }

    /** Boats at the ROLLER. */
    private static final class Roller {
        private static final int MOST = 7;
        // Above what all may wait together.
        private static final int ANY_SUM = 1000000;

        int boats;
        private final int[] comes = new int[MOST];
        private final int[] takes = new int[MOST];
        int leastSum;
        final int[] bestTurn = new int[MOST];
        private final int[] turn = new int[MOST];

        Roller() {
        }

        void take(Roller other) {
            boats = other.boats;
            System.arraycopy(other.comes, 0, comes, 0, MOST);
            System.arraycopy(other.takes, 0, takes, 0, MOST);
        }

        int add(int minute, int needs) {
            if (boats >= MOST) {
                return NONE;
            }
            comes[boats] = minute;
            takes[boats] = needs;
            boats++;
            return boats;
        }

        void solve() {
            leastSum = ANY_SUM;
            place(this, 0, 0, 0, 0);
        }

        // Orders are tried the least first, so that only a lesser sum may take the place of one that was found.
        private static void place(Roller roller, int depth, int used, int time, int sum) {
            if (sum >= roller.leastSum || depth > roller.boats) {
                return;
            }
            if (depth == roller.boats) {
                roller.leastSum = sum;
                System.arraycopy(roller.turn, 0, roller.bestTurn, 0, depth);
                return;
            }
            for (int b = 0; b < roller.boats; b++) {
                if ((used >> b & 1) == 0) {
                    int start = Math.max(time, roller.comes[b]);
                    roller.turn[depth] = b;
                    place(roller, depth + 1, used | 1 << b, start + roller.takes[b], sum + start - roller.comes[b]);
                }
            }
        }
    }

    /** GUIDES and the PARTIES that want them. */
    private static final class Guides {
        private static final int MOST = 8;
        private static final int SETS = 256;
        static final int ROW = (MOST + 1) * SETS;
        // Above the coin of all PARTIES, so that one PARTY more outweighs any coin.
        private static final int PARTY = 10000;

        int guides;
        private final int[] knows = new int[MOST];
        final int[] purse = new int[MOST];
        int parties;
        private final int[] wants = new int[MOST];
        private final int[] pays = new int[MOST];
        final int[] guideOf = new int[MOST];
        int served;
        int coinServed;

        Guides() {
        }

        void take(Guides other) {
            guides = other.guides;
            parties = other.parties;
            System.arraycopy(other.knows, 0, knows, 0, MOST);
            System.arraycopy(other.purse, 0, purse, 0, MOST);
            System.arraycopy(other.wants, 0, wants, 0, MOST);
            System.arraycopy(other.pays, 0, pays, 0, MOST);
        }

        int addGuide(int songs) {
            if (guides >= MOST) {
                return NONE;
            }
            knows[guides] = songs;
            purse[guides] = 0;
            guides++;
            return guides - 1;
        }

        int addParty(int songs, int coin) {
            if (parties >= MOST) {
                return NONE;
            }
            wants[parties] = songs;
            pays[parties] = coin;
            parties++;
            return parties - 1;
        }

        private boolean canGuide(int guide, int party, int used) {
            return (used >> guide & 1) == 0 && (wants[party] & ~knows[guide]) == 0;
        }

        // The row holds the most that a PARTY and those behind it can be worth, for each set of guides that are taken.
        void solve(int[] row) {
            served = 0;
            coinServed = 0;
            if (row.length < ROW) {
                return;
            }
            Arrays.fill(row, 0);
            int sets = 1 << guides;
            for (int p = parties - 1; p >= 0; p--) {
                for (int used = 0; used < sets; used++) {
                    row[p * SETS + used] = worth(row, p, used);
                }
            }
            int used = 0;
            for (int p = 0; p < parties; p++) {
                guideOf[p] = choose(row, p, used);
                if (guideOf[p] != NONE) {
                    used |= 1 << guideOf[p];
                    served++;
                    coinServed += pays[p];
                }
            }
        }

        private int worth(int[] row, int party, int used) {
            int next = (party + 1) * SETS;
            int most = row[next + used];
            for (int g = 0; g < guides; g++) {
                if (canGuide(g, party, used)) {
                    most = Math.max(most, row[next + (used | 1 << g)] + PARTY + pays[party]);
                }
            }
            return most;
        }

        private int choose(int[] row, int party, int used) {
            int due = row[party * SETS + used] - PARTY - pays[party];
            int chosen = NONE;
            for (int g = 0; g < guides; g++) {
                if (canGuide(g, party, used) && row[(party + 1) * SETS + (used | 1 << g)] == due) {
                    chosen = chosen == NONE || purse[g] < purse[chosen] ? g : chosen;
                }
            }
            return chosen;
        }

        void payOut(int part) {
            for (int p = 0; p < parties; p++) {
                if (guideOf[p] >= 0) {
                    purse[guideOf[p]] += pays[p] * part / 100;
                }
            }
            parties = 0;
        }

        int spread() {
            if (guides == 0) {
                return 0;
            }
            int least = purse[0];
            int most = purse[0];
            for (int g = 1; g < guides; g++) {
                least = Math.min(least, purse[g]);
                most = Math.max(most, purse[g]);
            }
            return most - least;
        }
    }

    /** BOATS that lie dry for PAINT, and what their failing would cost. */
    private static final class Dock {
        private static final int MOST = 10;
        // Above what all may lose together.
        private static final int ANY_COIN = 1000000;

        private final int[] dryWeeks = new int[BOATS];
        private final int[] dryCoin = new int[BOATS];
        final int[] failPart = new int[BOATS];
        final int[] failCoin = new int[BOATS];
        private final int[] dry = new int[MOST];
        private final int[] order = new int[MOST];
        private int dryBoats;
        int best;
        private int bestChoice;

        Dock() {
        }

        void take(Dock other) {
            System.arraycopy(other.dryWeeks, 0, dryWeeks, 0, BOATS);
            System.arraycopy(other.dryCoin, 0, dryCoin, 0, BOATS);
            System.arraycopy(other.failPart, 0, failPart, 0, BOATS);
            System.arraycopy(other.failCoin, 0, failCoin, 0, BOATS);
        }

        boolean setPaint(int boat, int weeks, int coin) {
            listDry();
            if (weeks > 0 && dryWeeks[boat] == 0 && dryBoats >= MOST) {
                return false;
            }
            dryWeeks[boat] = weeks;
            dryCoin[boat] = coin;
            return true;
        }

        private void listDry() {
            dryBoats = 0;
            for (int b = 0; b < BOATS && dryBoats < MOST; b++) {
                if (dryWeeks[b] > 0) {
                    dry[dryBoats] = b;
                    dryBoats++;
                }
            }
        }

        // On one berth the least is lost when those with the most coin for a week of work come first.
        private void orderDry() {
            for (int i = 0; i < dryBoats; i++) {
                int place = i;
                for (; place > 0 && isSooner(i, order[place - 1]); place--) {
                    order[place] = order[place - 1];
                }
                order[place] = i;
            }
        }

        private boolean isSooner(int one, int other) {
            int a = dry[one];
            int b = dry[other];
            return dryWeeks[a] * dryCoin[b] < dryWeeks[b] * dryCoin[a];
        }

        // Choices are tried the least first; their bits are by the list of dry BOATS, which keeps the order of BOATS.
        void solvePaint(int berths) {
            listDry();
            orderDry();
            int choices = berths == 1 ? 1 : 1 << dryBoats;
            best = ANY_COIN;
            for (int choice = 0; choice < choices; choice++) {
                int coin = coinLost(choice);
                if (coin < best) {
                    best = coin;
                    bestChoice = choice;
                }
            }
        }

        private int coinLost(int choice) {
            int first = 0;
            int second = 0;
            int coin = 0;
            for (int i = 0; i < dryBoats; i++) {
                int boat = dry[order[i]];
                if ((choice >> order[i] & 1) == 0) {
                    first += dryWeeks[boat];
                    coin += first * dryCoin[boat];
                } else {
                    second += dryWeeks[boat];
                    coin += second * dryCoin[boat];
                }
            }
            return coin;
        }

        void solveRenewal(int weeks) {
            listDry();
            best = NONE;
            for (int choice = 0; choice < 1 << dryBoats; choice++) {
                int saved = saving(choice, weeks);
                if (saved > best) {
                    best = saved;
                    bestChoice = choice;
                }
            }
        }

        private int saving(int choice, int weeks) {
            int left = weeks;
            int sum = 0;
            for (int i = 0; i < dryBoats; i++) {
                if ((choice >> i & 1) == 1) {
                    left -= dryWeeks[dry[i]];
                    sum += failPart[dry[i]] * failCoin[dry[i]];
                }
            }
            return left >= 0 ? sum : NONE;
        }

        int bestSet() {
            int bits = 0;
            for (int i = 0; i < dryBoats; i++) {
                bits |= (bestChoice >> i & 1) << dry[i];
            }
            return bits;
        }
    }
}
