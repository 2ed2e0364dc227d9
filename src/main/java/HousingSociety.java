import java.util.Arrays;

/**
 * A housing society: who has which home, by which right and since when; the texts by which homes are let
 * and costs are parted; the queue, the offers and the exchange of homes; the coins and the fund.
 *
 * <p>The rows are made with the object and used again, so that a long run of calls makes nothing new but the
 * bytes and the code of the few texts that are kept.
 */
public final class HousingSociety {
    public static final int NONE = -1, BAD = -2, STATE = -3, FULL = -4;
    public static final long NO = -4611686018427387904L;

    private static final int HOMES = 12, MEMBERS = 24, RIGHTS = 60, TEXTS = 12, COSTS = 30,
            TRAYS = 6;
    private static final int TAPE = 400;
    private static final int LAST_TODAY = 1000000, LAST_DAY = 2000000, MOST_DAYS = 10000;
    private static final int MOST_COINS = 1000000, HEAVIEST = 1000000;

    private static final int RIGHT = 0, LET = 1, GUEST = 2, JOINT = 3, LEFT = 4;

    private static final int PART_POINTS = 0, PART_MAY = 1, PART_VOTES = 2, PART_COSTS = 3, PARTS = 4;

    private static final int WAITS = 0, FAMILY = 1, ROOMS = 2, JOINED = 3, DEBT = 4, STAIR = 5, SHARE = 6,
            PEOPLE = 7, NAMES = 8;

    private static final String FIRST_TEXT = "points waits ; may 1 ; votes 1 ; costs 1 ;";

    private int today;
    private final Home[] homes = new Home[HOMES];
    private int homeCount;
    private final Member[] members = new Member[MEMBERS];
    private int memberCount;
    private final Register rights = new Register();
    private final Reader reader = new Reader();
    private final Scale scale = new Scale();
    private final Statute[] texts = new Statute[TEXTS];
    private int textCount;
    private int carriedCount;
    private int faultKind;
    private int faultPlace = NONE;
    private final long[] pointsRow = new long[MEMBERS];
    private final Exchange exchange = new Exchange();
    private final Parting parting = new Parting();
    private final Fund fund = new Fund();
    private final Tray[] trays = new Tray[TRAYS];
    private int status;

    public HousingSociety() {
        for (int i = 0; i < HOMES; i++) {
            homes[i] = new Home();
        }
        for (int i = 0; i < MEMBERS; i++) {
            members[i] = new Member();
        }
        for (int i = 0; i < TEXTS; i++) {
            texts[i] = new Statute();
        }
        for (int i = 0; i < TRAYS; i++) {
            trays[i] = new Tray();
        }
        for (int i = 0; i < FIRST_TEXT.length(); i++) {
            reader.append(FIRST_TEXT.charAt(i));
        }
        reader.read();
        texts[0].copyFrom(reader);
        texts[0].enact(0, 0, NONE);
        reader.forget();
        textCount = 1;
    }

    public int day(int n) {
        if (n < 0 || n > MOST_DAYS) {
            return BAD;
        }
        if (today + n > LAST_TODAY) {
            return FULL;
        }
        today += n;
        return today;
    }

    public int home(int stair, int rooms, int share) {
        if (stair < 0 || stair > 3 || rooms < 1 || rooms > 6 || share < 1 || share > 100) {
            return BAD;
        }
        if (homeCount >= HOMES) {
            return FULL;
        }
        homes[homeCount].build(stair, rooms, share);
        homeCount++;
        return homeCount - 1;
    }

    public int member(int family) {
        if (!isFamily(family)) {
            return BAD;
        }
        if (memberCount >= MEMBERS) {
            return FULL;
        }
        members[memberCount].arrive(family, today);
        memberCount++;
        return memberCount - 1;
    }

    public int family(int member, int n) {
        if (!isMember(member) || !isFamily(n)) {
            return BAD;
        }
        if (!isHere(member)) {
            return STATE;
        }
        int before = members[member].family;
        members[member].family = n;
        return before;
    }

    // ---- rights

    public int right(int kind, int home, int member, int days) {
        if (kind < RIGHT || kind > GUEST || !isHome(home) || !isMember(member) || !daysFit(kind, days)) {
            return BAD;
        }
        if (!isHere(member) || !mayHave(kind, home, member)) {
            return STATE;
        }
        if (!rights.hasRoom(1)) {
            return FULL;
        }
        return rights.add(kind, home, member, NONE, today, kind == RIGHT ? NONE : today + days);
    }

    public int join(int right, int member) {
        if (!rights.has(right) || !isMember(member)) {
            return BAD;
        }
        Right old = rights.rows[right];
        if (old.kind != RIGHT || !old.isInForce(today)) {
            return STATE;
        }
        if (!isHere(member) || rights.ofMember(member, today) != NONE) {
            return STATE;
        }
        if (!rights.hasRoom(1)) {
            return FULL;
        }
        old.to = today;
        return rights.add(JOINT, old.home, old.member, member, today, NONE);
    }

    public int end(int right) {
        if (!rights.has(right)) {
            return BAD;
        }
        if (!rights.rows[right].isInForce(today)) {
            return STATE;
        }
        rights.rows[right].to = today;
        return 1;
    }

    public int leave(int member) {
        if (!isMember(member)) {
            return BAD;
        }
        if (!isHere(member)) {
            return STATE;
        }
        if (!rights.hasRoom(rights.heirsBehind(member, today))) {
            return FULL;
        }
        int left = rights.giveUp(member, today);
        rights.endAllOf(member, today);
        members[member].depart(today);
        for (int i = 0; i < homeCount; i++) {
            homes[i].refusals &= ~(1 << member);
        }
        return left;
    }

    public int rightTold(int right, int what) {
        if (!rights.has(right)) {
            return BAD;
        }
        Right r = rights.rows[right];
        switch (what) {
            case 0: return r.kind;
            case 1: return r.home;
            case 2: return r.member;
            case 3: return r.second;
            case 4: return r.from;
            case 5: return r.to;
            case 6: return r.isInForce(today) ? 1 : 0;
            default: return BAD;
        }
    }

    public int inForce(int what, int who, int day) {
        if (!isDay(day)) {
            return BAD;
        }
        if (what == 0 && isHome(who)) {
            return rights.ofHome(who, day);
        }
        if (what == 1 && isMember(who)) {
            return rights.ofMember(who, day);
        }
        return BAD;
    }

    public int homeTold(int home, int what) {
        if (!isHome(home)) {
            return BAD;
        }
        Home h = homes[home];
        switch (what) {
            case 0: return h.stair;
            case 1: return h.rooms;
            case 2: return h.share;
            case 3: return isEmpty(home) ? 1 : 0;
            case 4: return offeredTo(home);
            case 5: return h.onOffer ? 1 : 0;
            case 6: return rights.guestsIn(home, today);
            default: return BAD;
        }
    }

    public int memberTold(int member, int what) {
        if (!isMember(member)) {
            return BAD;
        }
        Member m = members[member];
        switch (what) {
            case 0: return m.family;
            case 1: return m.came;
            case 2: return m.went;
            case 3: return m.waitsSince;
            case 4: return heldHome(member);
            case 5: return Integer.bitCount(m.wishes);
            case 6: return isHere(member) ? 1 : 0;
            default: return BAD;
        }
    }

    // ---- texts

    public int feed(int n, long bytes) {
        if (n < 1 || n > 8) {
            return BAD;
        }
        if (reader.size + n > TAPE) {
            return FULL;
        }
        for (int i = 0; i < n; i++) {
            reader.append((int) (bytes >>> (8 * i)));
        }
        return reader.size;
    }

    public int propose() {
        if (textCount >= TEXTS) {
            return FULL;
        }
        reader.read();
        faultKind = reader.faultKind;
        faultPlace = reader.faultPlace;
        if (faultKind == 0) {
            texts[textCount].copyFrom(reader);
            textCount++;
        }
        reader.forget();
        return faultKind == 0 ? textCount - 1 : -10 - faultKind;
    }

    public int fault(int what) {
        switch (what) {
            case 0: return faultKind;
            case 1: return faultPlace;
            default: return BAD;
        }
    }

    public int vote(int member, int text, boolean yes) {
        if (!isMember(member) || !isText(text)) {
            return BAD;
        }
        Statute s = texts[text];
        if (s.isCarried() || s.isVoid || !isHere(member) || s.hasVoteOf(member)) {
            return STATE;
        }
        s.countVote(member, yes);
        return Integer.bitCount(s.yesVotes);
    }

    public int carry(int text, int from) {
        if (!isText(text) || from < today || from > LAST_DAY) {
            return BAD;
        }
        Statute s = texts[text];
        if (s.isCarried() || s.isVoid) {
            return STATE;
        }
        if (Integer.bitCount(s.yesVotes) < votesNeeded()) {
            return 0;
        }
        int ground = textOn(today);
        carriedCount++;
        s.enact(carriedCount, from, ground);
        return 1;
    }

    public int tear(int text) {
        if (!isText(text) || text == 0) {
            return BAD;
        }
        if (texts[text].isVoid) {
            return STATE;
        }
        texts[text].isVoid = true;
        int torn = 1;
        // What hangs on a text may have a lower number than it, so one round over all of them is not enough.
        for (int round = 0; round < TEXTS; round++) {
            torn += tearHanging();
        }
        return torn;
    }

    public int textTold(int text, int what) {
        if (!isText(text)) {
            return BAD;
        }
        Statute s = texts[text];
        switch (what) {
            case 0: return s.isCarried() ? 1 : 0;
            case 1: return s.isVoid ? 1 : 0;
            case 2: return s.fromDay;
            case 3: return Integer.bitCount(s.yesVotes);
            case 4: return Integer.bitCount(s.noVotes);
            case 5: return s.hangsOn;
            case 6: return s.bytes.length;
            default: return BAD;
        }
    }

    public int text(int day) {
        return isDay(day) ? textOn(day) : BAD;
    }

    // ---- waiting, offers, changes

    public int wait(int member) {
        if (!isMember(member)) {
            return BAD;
        }
        if (!isHere(member)) {
            return STATE;
        }
        if (members[member].waits()) {
            return 0;
        }
        members[member].waitsSince = today;
        return 1;
    }

    public long points(int member, int home, int what) {
        if (!isMember(member) || !isHome(home) || what < 0 || what > 1) {
            return NO;
        }
        nameApplicant(member);
        nameHome(home);
        return scale.worth(texts[textOn(today)], what == 0 ? PART_POINTS : PART_MAY);
    }

    public int order(int home, int i) {
        if (!isHome(home)) {
            return BAD;
        }
        return placeInOrder(home, i, 0);
    }

    public int offer(int home) {
        if (!isHome(home)) {
            return BAD;
        }
        if (!isEmpty(home) || homes[home].onOffer) {
            return STATE;
        }
        homes[home].onOffer = true;
        homes[home].refusals = 0;
        return offeredTo(home);
    }

    public int take(int home, boolean yes) {
        if (!isHome(home)) {
            return BAD;
        }
        int who = offeredTo(home);
        if (who == NONE) {
            return STATE;
        }
        if (!yes) {
            homes[home].refusals |= 1 << who;
            return offeredTo(home);
        }
        if (!rights.hasRoom(1 + rights.heirsBehind(who, today))) {
            return FULL;
        }
        rights.giveUp(who, today);
        members[who].waitsSince = NONE;
        homes[home].onOffer = false;
        return rights.add(RIGHT, home, who, NONE, today, NONE);
    }

    public int withdraw(int home) {
        if (!isHome(home)) {
            return BAD;
        }
        if (!homes[home].onOffer) {
            return STATE;
        }
        homes[home].onOffer = false;
        return 1;
    }

    public int wish(int member, int home, boolean is) {
        if (!isMember(member) || !isHome(home)) {
            return BAD;
        }
        if (!isHere(member)) {
            return STATE;
        }
        int before = members[member].wishes;
        int after = is ? before | 1 << home : before & ~(1 << home);
        members[member].wishes = after;
        return before == after ? 0 : 1;
    }

    public int best() {
        return findChange();
    }

    public int moves(int member) {
        if (!isMember(member)) {
            return BAD;
        }
        findChange();
        return exchange.goals[member];
    }

    public int change() {
        int moved = findChange();
        if (!rights.hasRoom(moved)) {
            return FULL;
        }
        for (int i = 0; i < memberCount; i++) {
            if (exchange.goals[i] != NONE) {
                rights.moveHolder(i, exchange.goals[i], today);
                members[i].wishes = 0;
            }
        }
        return moved;
    }

    // ---- coins

    public int cost(int coins) {
        if (coins < 1 || coins > MOST_COINS) {
            return BAD;
        }
        weighHomes();
        if (parting.total == 0) {
            return STATE;
        }
        if (parting.size >= COSTS) {
            return FULL;
        }
        int number = parting.divide(coins);
        for (int i = 0; i < homeCount; i++) {
            int right = rights.ofHome(i, today);
            if (right != NONE) {
                members[rights.rows[right].member].debt += parting.share(number, i);
            }
        }
        return number;
    }

    public int parted(int cost, int home) {
        if (cost < 0 || cost >= parting.size || !isHome(home)) {
            return BAD;
        }
        return parting.share(cost, home);
    }

    public long pay(int member, int n) {
        if (!isMember(member) || !areCoins(n)) {
            return NO;
        }
        members[member].debt -= n;
        return members[member].debt;
    }

    public int year(int y, int n) {
        if (!fund.hasYear(y) || !areCoins(n)) {
            return BAD;
        }
        int before = fund.spends[y];
        fund.spends[y] = n;
        return before;
    }

    public int gain(int n) {
        if (n < 0 || n > 100) {
            return BAD;
        }
        int before = fund.thousandths;
        fund.thousandths = n;
        return before;
    }

    public int due() {
        return fund.leastDue();
    }

    public long fund(int y, int n) {
        if (!fund.hasYear(y) || !areCoins(n)) {
            return NO;
        }
        return fund.behindYear(y, n);
    }

    public int count(int what) {
        switch (what) {
            case 0: return homeCount;
            case 1: return memberCount;
            case 2: return membersHere();
            case 3: return rights.size;
            case 4: return rights.inForceOn(today);
            case 5: return textCount;
            case 6: return parting.size;
            case 7: return reader.size;
            case 8: return today;
            case 9: return membersWaiting();
            case 10: return Integer.bitCount(homesOnOffer());
            case 11: return fund.thousandths;
            default: return BAD;
        }
    }

    public int put(int tray, int what, int n) {
        if (!isTray(tray) || what == Tray.A_RIGHT && !rights.has(n)) {
            status = Tray.NONE_SUCH;
            return -1;
        }
        Tray t = trays[tray];
        status = Tray.DONE;
        switch (what) {
            case Tray.NOTHING: t.holdNothing(); return 1;
            case Tray.A_RIGHT: t.holdRight(rights.rows[n]); return 1;
            case Tray.BYTES: t.holdBytes(texts[textOn(today)]); return 1;
            case Tray.DEBTS: t.holdDebts(members, memberCount); return 1;
            case Tray.TRUTHS: t.holdTruths(emptyHomes(), homeCount); return 1;
            default: status = Tray.NONE_SUCH; return -1;
        }
    }

    public int forge(int tray, int what, int n) {
        if (!isTray(tray) || n < -100 || n > 100) {
            status = Tray.NONE_SUCH;
            return -1;
        }
        int answer = trays[tray].work(what, n);
        status = trays[tray].outcome;
        return answer;
    }

    public int status() {
        return status;
    }

    // ---- what numbers there are

    private boolean isHome(int n) {
        return n >= 0 && n < homeCount;
    }

    private boolean isMember(int n) {
        return n >= 0 && n < memberCount;
    }

    private boolean isText(int n) {
        return n >= 0 && n < textCount;
    }

    private static boolean isTray(int n) {
        return n >= 0 && n < TRAYS;
    }

    private static boolean isFamily(int n) {
        return n >= 1 && n <= 9;
    }

    private static boolean isDay(int n) {
        return n >= 0 && n <= LAST_DAY;
    }

    private static boolean areCoins(int n) {
        return n >= 0 && n <= MOST_COINS;
    }

    private static boolean daysFit(int kind, int days) {
        return kind == RIGHT ? days == 0 : days >= 1 && days <= MOST_DAYS;
    }

    // ---- who is here and who has what, today

    private boolean isHere(int member) {
        return members[member].isHere(today);
    }

    private boolean isEmpty(int home) {
        return rights.ofHome(home, today) == NONE;
    }

    private int emptyHomes() {
        int bits = 0;
        for (int i = 0; i < homeCount; i++) {
            if (isEmpty(i)) {
                bits |= 1 << i;
            }
        }
        return bits;
    }

    private int heldHome(int member) {
        int right = rights.ofMember(member, today);
        return right == NONE ? NONE : rights.rows[right].home;
    }

    private boolean mayHave(int kind, int home, int member) {
        int held = heldHome(member);
        if (kind == GUEST) {
            return held != home;
        }
        return held == NONE && isEmpty(home) && !homes[home].onOffer;
    }

    private int membersHere() {
        int n = 0;
        for (int i = 0; i < memberCount; i++) {
            if (isHere(i)) {
                n++;
            }
        }
        return n;
    }

    private int membersWaiting() {
        int n = 0;
        for (int i = 0; i < memberCount; i++) {
            if (members[i].waits()) {
                n++;
            }
        }
        return n;
    }

    private int homesOnOffer() {
        int bits = 0;
        for (int i = 0; i < homeCount; i++) {
            if (homes[i].onOffer) {
                bits |= 1 << i;
            }
        }
        return bits;
    }

    // ---- the text in force, and what it tells

    private int textOn(int day) {
        int last = 0;
        for (int i = 1; i < textCount; i++) {
            if (texts[i].isLaw(day) && texts[i].rank > texts[last].rank) {
                last = i;
            }
        }
        return last;
    }

    private int tearHanging() {
        int torn = 0;
        for (int i = 0; i < textCount; i++) {
            Statute s = texts[i];
            if (!s.isVoid && isText(s.hangsOn) && texts[s.hangsOn].isVoid) {
                s.isVoid = true;
                torn++;
            }
        }
        return torn;
    }

    private long votesNeeded() {
        scale.names[PEOPLE] = membersHere();
        return scale.worth(texts[textOn(today)], PART_VOTES);
    }

    private void nameApplicant(int member) {
        Member m = members[member];
        scale.names[WAITS] = m.waits() ? today - m.waitsSince : 0;
        scale.names[FAMILY] = m.family;
        scale.names[JOINED] = today - m.came;
        scale.names[DEBT] = m.debt;
    }

    private void nameHome(int home) {
        Home h = homes[home];
        scale.names[ROOMS] = h.rooms;
        scale.names[STAIR] = h.stair;
        scale.names[SHARE] = h.share;
    }

    // ---- the order of who waits

    private int offeredTo(int home) {
        return homes[home].onOffer ? placeInOrder(home, 0, homes[home].refusals) : NONE;
    }

    private int placeInOrder(int home, int i, int leftOut) {
        int queue = queueFor(home, leftOut);
        if (i < 0 || i >= Integer.bitCount(queue)) {
            return NONE;
        }
        for (int ahead = 0; ahead < i; ahead++) {
            queue &= ~(1 << firstOf(queue));
        }
        return firstOf(queue);
    }

    /** Who waits and may have the home, as bits; their points are laid into the row of points. */
    private int queueFor(int home, int leftOut) {
        Statute law = texts[textOn(today)];
        int queue = 0;
        nameHome(home);
        for (int i = 0; i < memberCount; i++) {
            if (!members[i].waits() || (leftOut >> i & 1) != 0) {
                continue;
            }
            nameApplicant(i);
            if (scale.worth(law, PART_MAY) != 0) {
                pointsRow[i] = scale.worth(law, PART_POINTS);
                queue |= 1 << i;
            }
        }
        return queue;
    }

    private int firstOf(int queue) {
        int first = NONE;
        for (int i = 0; i < memberCount; i++) {
            if ((queue >> i & 1) != 0 && (first == NONE || goesAhead(i, first))) {
                first = i;
            }
        }
        return first;
    }

    private boolean goesAhead(int one, int other) {
        if (pointsRow[one] != pointsRow[other]) {
            return pointsRow[one] > pointsRow[other];
        }
        return members[one].waitsSince < members[other].waitsSince;
    }

    // ---- the change

    private int findChange() {
        exchange.begin(homeCount, emptyHomes() & ~homesOnOffer());
        for (int i = 0; i < memberCount; i++) {
            int right = rights.ofMember(i, today);
            if (right != NONE && rights.rows[right].mayMove(i)) {
                exchange.enter(i, rights.rows[right].home, members[i].wishes);
            }
        }
        return exchange.settle();
    }

    // ---- the parting of costs

    private void weighHomes() {
        Statute law = texts[textOn(today)];
        parting.begin();
        for (int i = 0; i < homeCount; i++) {
            int right = rights.ofHome(i, today);
            if (right != NONE) {
                nameHome(i);
                scale.names[FAMILY] = members[rights.rows[right].member].family;
                parting.weigh(i, scale.worth(law, PART_COSTS));
            }
        }
    }

    private static final class Home {
        int stair;
        int rooms;
        int share;
        boolean onOffer;
        int refusals;

        void build(int onStair, int withRooms, int withShare) {
            stair = onStair;
            rooms = withRooms;
            share = withShare;
        }
    }

    private static final class Member {
        int family;
        int came;
        int went = NONE;
        int waitsSince = NONE;
        int wishes;
        long debt;

        void arrive(int withFamily, int onDay) {
            family = withFamily;
            came = onDay;
        }

        void depart(int onDay) {
            went = onDay;
            waitsSince = NONE;
            wishes = 0;
        }

        boolean isHere(int onDay) {
            return came <= onDay && (went == NONE || onDay < went);
        }

        boolean waits() {
            return waitsSince != NONE;
        }
    }

    private static final class Right {
        int kind;
        int home;
        int member;
        int second;
        int from;
        int to;

        boolean isInForce(int onDay) {
            return from <= onDay && (to == NONE || onDay < to);
        }

        /** By a GUEST right nobody holds a home. */
        boolean isHeld(int onDay) {
            return kind != GUEST && isInForce(onDay);
        }

        boolean isOf(int who) {
            return member == who || second == who;
        }

        boolean mayMove(int who) {
            return member == who && to == NONE && (kind == RIGHT || kind == JOINT || kind == LEFT);
        }
    }

    /** All rights, by number. */
    private static final class Register {
        final Right[] rows = new Right[RIGHTS];
        int size;

        Register() {
            for (int i = 0; i < RIGHTS; i++) {
                rows[i] = new Right();
            }
        }

        boolean has(int n) {
            return n >= 0 && n < size;
        }

        boolean hasRoom(int more) {
            return size + more <= RIGHTS;
        }

        /** The callers look for room first; without any, nothing is added. */
        int add(int kind, int home, int member, int second, int from, int to) {
            if (!hasRoom(1)) {
                return FULL;
            }
            Right r = rows[size];
            r.kind = kind;
            r.home = home;
            r.member = member;
            r.second = second;
            r.from = from;
            r.to = to;
            size++;
            return size - 1;
        }

        int ofHome(int home, int onDay) {
            for (int i = 0; i < size; i++) {
                if (rows[i].home == home && rows[i].isHeld(onDay)) {
                    return i;
                }
            }
            return NONE;
        }

        int ofMember(int member, int onDay) {
            for (int i = 0; i < size; i++) {
                if (rows[i].isOf(member) && rows[i].isHeld(onDay)) {
                    return i;
                }
            }
            return NONE;
        }

        int guestsIn(int home, int onDay) {
            int n = 0;
            for (int i = 0; i < size; i++) {
                if (rows[i].home == home && rows[i].kind == GUEST && rows[i].isInForce(onDay)) {
                    n++;
                }
            }
            return n;
        }

        int inForceOn(int onDay) {
            int n = 0;
            for (int i = 0; i < size; i++) {
                if (rows[i].isInForce(onDay)) {
                    n++;
                }
            }
            return n;
        }

        /** How many LEFT rights come of it when a member gives up what it holds: 1 or 0. */
        int heirsBehind(int member, int onDay) {
            int held = ofMember(member, onDay);
            return held != NONE && rows[held].kind == JOINT ? 1 : 0;
        }

        /** What a member holds ends; the number of the LEFT right of the one who stays, or NONE. */
        int giveUp(int member, int onDay) {
            int held = ofMember(member, onDay);
            if (held == NONE) {
                return NONE;
            }
            Right r = rows[held];
            r.to = onDay;
            if (r.kind != JOINT) {
                return NONE;
            }
            int stays = r.member == member ? r.second : r.member;
            return add(LEFT, r.home, stays, NONE, onDay, NONE);
        }

        void endAllOf(int member, int onDay) {
            for (int i = 0; i < size; i++) {
                if (rows[i].isOf(member) && rows[i].isInForce(onDay)) {
                    rows[i].to = onDay;
                }
            }
        }

        void moveHolder(int member, int home, int onDay) {
            int held = ofMember(member, onDay);
            if (held == NONE) {
                return;
            }
            Right old = rows[held];
            old.to = onDay;
            add(old.kind, home, old.member, old.second, onDay, NONE);
        }
    }

    /** A text: its bytes, and its four parts as a code that the scale reads. */
    private static final class Statute {
        byte[] bytes = new byte[0];
        int[] code = new int[0];
        final int[] starts = new int[PARTS + 1];
        int yesVotes;
        int noVotes;
        boolean isVoid;
        int rank = NONE;
        int fromDay = NONE;
        int hangsOn = NONE;

        void copyFrom(Reader reader) {
            bytes = Arrays.copyOf(reader.bytes, reader.size);
            code = Arrays.copyOf(reader.code, reader.codeSize);
            System.arraycopy(reader.starts, 0, starts, 0, PARTS + 1);
        }

        boolean isCarried() {
            return rank != NONE;
        }

        boolean isLaw(int onDay) {
            return isCarried() && !isVoid && fromDay <= onDay;
        }

        boolean hasVoteOf(int member) {
            return ((yesVotes | noVotes) >> member & 1) != 0;
        }

        void countVote(int member, boolean yes) {
            if (yes) {
                yesVotes |= 1 << member;
            } else {
                noVotes |= 1 << member;
            }
        }

        void enact(int asRank, int onDay, int ground) {
            rank = asRank;
            fromDay = onDay;
            hangsOn = ground;
        }
    }

    /**
     * Works out a part of a text. The code has the operands ahead of what joins them: a number stands for
     * itself, -1 less its place for a name, and what is lower for a step of the reckoning.
     */
    private static final class Scale {
        static final int OR = -21, AND = -22, DENY = -23, LESS = -24, SAME = -25, PLUS = -26, MINUS = -27,
                TIMES = -28, NEGATE = -29;

        // Eight ( open at most, and around each and outside them five joinings that wait: 46 numbers at once.
        private static final int HEIGHT = 64;

        final long[] names = new long[NAMES];
        private final long[] stack = new long[HEIGHT];
        private int top;

        long worth(Statute text, int part) {
            top = 0;
            int behind = Math.min(text.starts[part + 1], text.code.length);
            for (int i = text.starts[part]; i < behind; i++) {
                step(text.code[i]);
            }
            return pop();
        }

        private void step(int op) {
            if (op >= 0) {
                push(op);
            } else if (-1 - op < NAMES) {
                push(names[-1 - op]);
            } else if (op == NEGATE) {
                push(-pop());
            } else if (op == DENY) {
                push(pop() == 0 ? 1 : 0);
            } else {
                long right = pop();
                push(joined(op, pop(), right));
            }
        }

        private static long joined(int op, long left, long right) {
            switch (op) {
                case OR: return left != 0 || right != 0 ? 1 : 0;
                case AND: return left != 0 && right != 0 ? 1 : 0;
                case LESS: return left < right ? 1 : 0;
                case SAME: return left == right ? 1 : 0;
                case PLUS: return left + right;
                case MINUS: return left - right;
                default: return left * right;
            }
        }

        private void push(long value) {
            if (top < HEIGHT) {
                stack[top] = value;
                top++;
            }
        }

        private long pop() {
            if (top < 1) {
                return 0;
            }
            top--;
            return stack[top];
        }
    }

    /** The tape, and the reading of a text from it. */
    private static final class Reader {
        private static final int ENDED = 0, WRONG = 1, NUMBER = 2, NAME = 3;
        // The places of these words in WORDS; signs are told by their bytes, which are all above.
        private static final int POINTS = 8, OR = 12, AND = 13, NOT = 14;
        private static final String WORDS =
                "waits family rooms joined debt stair share members points may votes costs or and not ";
        // The names that each part may have, as bits by their places in WORDS.
        private static final int[] ALLOWED = {127, 127, 128, 102};
        private static final int LONGEST_WORD = 8, LONGEST_NUMBER = 6, MOST_OPEN = 8;

        final byte[] bytes = new byte[TAPE];
        int size;
        final int[] code = new int[TAPE];
        int codeSize;
        final int[] starts = new int[PARTS + 1];
        int faultKind;
        int faultPlace;
        private int part;
        private int place;
        private int token;
        private int tokenPlace;
        private int tokenWorth;
        private int forbiddenPlace;

        void append(int b) {
            if (size < TAPE) {
                bytes[size] = (byte) b;
                size++;
            }
        }

        void forget() {
            size = 0;
        }

        /** Tells by faultKind, 0 for none, whether what the tape has is a text. */
        void read() {
            place = 0;
            codeSize = 0;
            forbiddenPlace = NONE;
            faultKind = 0;
            faultPlace = NONE;
            advance();
            boolean isText = true;
            for (part = 0; part < PARTS && isText; part++) {
                starts[part] = codeSize;
                isText = skip(POINTS + part) && readOr(0) && skip(';');
            }
            starts[PARTS] = codeSize;
            if (!isText || token != ENDED) {
                faultKind = 1;
                faultPlace = tokenPlace;
            } else if (forbiddenPlace != NONE) {
                faultKind = 2;
                faultPlace = forbiddenPlace;
            }
        }

        // Each of these reads as much as its rule of the grammar takes. Where one answers false, the token at
        // hand is the one that can't stand there; open is how many of ( not - have not ended.

        private boolean readOr(int open) {
            if (!readAnd(open)) {
                return false;
            }
            for (int i = 0; i < TAPE && token == OR; i++) {
                advance();
                if (!readAnd(open)) {
                    return false;
                }
                emit(Scale.OR);
            }
            return true;
        }

        private boolean readAnd(int open) {
            if (!readNot(open)) {
                return false;
            }
            for (int i = 0; i < TAPE && token == AND; i++) {
                advance();
                if (!readNot(open)) {
                    return false;
                }
                emit(Scale.AND);
            }
            return true;
        }

        private boolean readNot(int open) {
            if (token != NOT) {
                return readComparison(open);
            }
            if (open >= MOST_OPEN) {
                return false;
            }
            advance();
            if (!readNot(open + 1)) {
                return false;
            }
            emit(Scale.DENY);
            return true;
        }

        private boolean readComparison(int open) {
            if (!readSum(open)) {
                return false;
            }
            int sign = token;
            if (sign != '<' && sign != '=') {
                return true;
            }
            advance();
            if (!readSum(open)) {
                return false;
            }
            emit(sign == '<' ? Scale.LESS : Scale.SAME);
            return true;
        }

        private boolean readSum(int open) {
            if (!readTerm(open)) {
                return false;
            }
            for (int i = 0; i < TAPE && (token == '+' || token == '-'); i++) {
                int sign = token;
                advance();
                if (!readTerm(open)) {
                    return false;
                }
                emit(sign == '+' ? Scale.PLUS : Scale.MINUS);
            }
            return true;
        }

        private boolean readTerm(int open) {
            if (!readOne(open)) {
                return false;
            }
            for (int i = 0; i < TAPE && token == '*'; i++) {
                advance();
                if (!readOne(open)) {
                    return false;
                }
                emit(Scale.TIMES);
            }
            return true;
        }

        private boolean readOne(int open) {
            if (token == NUMBER || token == NAME) {
                readOperand();
                return true;
            }
            if (open >= MOST_OPEN) {
                return false;
            }
            if (token == '(') {
                advance();
                return readOr(open + 1) && skip(')');
            }
            if (token != '-') {
                return false;
            }
            advance();
            if (!readOne(open + 1)) {
                return false;
            }
            emit(Scale.NEGATE);
            return true;
        }

        private void readOperand() {
            if (token == NUMBER) {
                emit(tokenWorth);
            } else {
                emit(-1 - tokenWorth);
                if (forbiddenPlace == NONE && (ALLOWED[part] >> tokenWorth & 1) == 0) {
                    forbiddenPlace = tokenPlace;
                }
            }
            advance();
        }

        private boolean skip(int expected) {
            if (token != expected) {
                return false;
            }
            advance();
            return true;
        }

        private void emit(int op) {
            if (codeSize < TAPE) {
                code[codeSize] = op;
                codeSize++;
            }
        }

        private void advance() {
            while (place < size && isBlank(bytes[place])) {
                place++;
            }
            tokenPlace = place;
            if (place >= size) {
                token = ENDED;
            } else if (isLetter(bytes[place])) {
                scanWord();
            } else if (isDigit(bytes[place])) {
                scanNumber();
            } else {
                token = isSign(bytes[place]) ? bytes[place] : WRONG;
                place++;
            }
        }

        private void scanWord() {
            while (place < size && isLetter(bytes[place])) {
                place++;
            }
            int word = place - tokenPlace > LONGEST_WORD ? NONE : wordOnTape();
            if (word == NONE) {
                token = WRONG;
            } else {
                token = word < NAMES ? NAME : word;
                tokenWorth = word;
            }
        }

        /** Which of WORDS the letters from tokenPlace to place are. */
        private int wordOnTape() {
            int word = 0;
            int at = tokenPlace;
            for (int i = 0; i < WORDS.length(); i++) {
                char c = WORDS.charAt(i);
                if (c != ' ') {
                    // Beyond the end of the letters, at stays there, and is at the end no more.
                    at = at < place && bytes[at] == c ? at + 1 : place + 1;
                } else if (at == place) {
                    return word;
                } else {
                    word++;
                    at = tokenPlace;
                }
            }
            return NONE;
        }

        private void scanNumber() {
            int worth = 0;
            while (place < size && isDigit(bytes[place])) {
                // Of a number that is too long the worth wraps, and is not used.
                worth = 10 * worth + bytes[place] - '0';
                place++;
            }
            token = place - tokenPlace > LONGEST_NUMBER ? WRONG : NUMBER;
            tokenWorth = worth;
        }

        private static boolean isBlank(int b) {
            return b == 32 || b == 10;
        }

        private static boolean isLetter(int b) {
            return b >= 'a' && b <= 'z';
        }

        private static boolean isDigit(int b) {
            return b >= '0' && b <= '9';
        }

        private static boolean isSign(int b) {
            return b == '(' || b == ')' || b == ';' || b == '+' || b == '-' || b == '*' || b == '<' || b == '=';
        }
    }

    /**
     * Finds the change. Who does not move stays at its own home, so each holder gets one home and no two the
     * same: an assignment, and the one with the least price is found by the Hungarian method. The prices are
     * such that this is the change: each holder has a digit (to the base 13) of its own, the lower members the
     * higher ones, in which a move costs its home's number and staying more than any; and each move takes off
     * more than all digits together, so that the most moves come first. No two changes have the same price.
     */
    private static final class Exchange {
        // 13 to the powers of 11 and of 12.
        private static final long BASE = 13, FIRST_DIGIT = 1792160394037L, MOVE = 23298085122481L;
        private static final long FORBIDDEN = 10000000000000000L, UNSEEN = 4000000000000000000L;

        final int[] goals = new int[MEMBERS];
        private final int[] holders = new int[HOMES + 1];
        private final int[] ownHomes = new int[HOMES + 1];
        private final int[] wishes = new int[HOMES + 1];
        private final long[][] price = new long[HOMES + 1][HOMES + 1];
        private final long[] holderRent = new long[HOMES + 1];
        private final long[] homeRent = new long[HOMES + 1];
        private final long[] slack = new long[HOMES + 1];
        private final int[] cameFrom = new int[HOMES + 1];
        private final boolean[] seen = new boolean[HOMES + 1];
        // By home (from 1 on) the holder (from 1 on) that gets it; 0 none. Place 0 is the one who looks.
        private final int[] getter = new int[HOMES + 1];
        private int homeCount;
        private int holderCount;
        private int openHomes;

        void begin(int homes, int freeHomes) {
            homeCount = Math.min(homes, HOMES);
            holderCount = 0;
            openHomes = freeHomes;
        }

        /** Holders come by rising numbers. */
        void enter(int member, int home, int wished) {
            if (holderCount >= homeCount) {
                return;
            }
            holderCount++;
            holders[holderCount] = member;
            ownHomes[holderCount] = home;
            wishes[holderCount] = wished;
            openHomes |= 1 << home;
        }

        /** How many move; goals tells whither. */
        int settle() {
            setPrices();
            for (int j = 0; j <= homeCount; j++) {
                getter[j] = 0;
                homeRent[j] = 0;
                holderRent[j] = 0;
            }
            for (int i = 1; i <= holderCount; i++) {
                seat(i);
            }
            return readGoals();
        }

        private void setPrices() {
            long digit = FIRST_DIGIT;
            for (int i = 1; i <= holderCount; i++) {
                for (int home = 0; home < homeCount; home++) {
                    price[i][home + 1] = priceOf(i, home, digit);
                }
                digit /= BASE;
            }
        }

        private long priceOf(int holder, int home, long digit) {
            if (ownHomes[holder] == home) {
                return HOMES * digit;
            }
            boolean canMove = ((wishes[holder] & openHomes) >> home & 1) != 0;
            return canMove ? home * digit - MOVE : FORBIDDEN;
        }

        /** One holder more gets a home, at the least price, the ones ahead of it changing theirs for it. */
        private void seat(int holder) {
            getter[0] = holder;
            for (int j = 0; j <= homeCount; j++) {
                slack[j] = UNSEEN;
                seen[j] = false;
            }
            int at = 0;
            for (int round = 0; round <= homeCount && getter[at] != 0; round++) {
                seen[at] = true;
                look(at);
                int next = nearest();
                shiftRents(slack[next]);
                at = next;
            }
            for (int round = 0; round <= homeCount && at != 0; round++) {
                getter[at] = getter[cameFrom[at]];
                at = cameFrom[at];
            }
        }

        private void look(int at) {
            int holder = getter[at];
            for (int j = 1; j <= homeCount; j++) {
                long rest = price[holder][j] - holderRent[holder] - homeRent[j];
                if (!seen[j] && rest < slack[j]) {
                    slack[j] = rest;
                    cameFrom[j] = at;
                }
            }
        }

        private int nearest() {
            int best = 0;
            for (int j = 1; j <= homeCount; j++) {
                if (!seen[j] && (best == 0 || slack[j] < slack[best])) {
                    best = j;
                }
            }
            return best;
        }

        private void shiftRents(long by) {
            for (int j = 0; j <= homeCount; j++) {
                if (seen[j]) {
                    holderRent[getter[j]] += by;
                    homeRent[j] -= by;
                } else {
                    slack[j] -= by;
                }
            }
        }

        private int readGoals() {
            for (int i = 0; i < MEMBERS; i++) {
                goals[i] = NONE;
            }
            int moved = 0;
            for (int j = 1; j <= homeCount; j++) {
                int holder = getter[j];
                if (holder != 0 && ownHomes[holder] != j - 1) {
                    goals[holders[holder]] = j - 1;
                    moved++;
                }
            }
            return moved;
        }
    }

    /** Parts costs among homes by their weights, and keeps what each got. */
    private static final class Parting {
        private final int[] shares = new int[COSTS * HOMES];
        int size;
        private final long[] weights = new long[HOMES];
        private final long[] lacks = new long[HOMES];
        long total;

        void begin() {
            total = 0;
            for (int i = 0; i < HOMES; i++) {
                weights[i] = 0;
            }
        }

        void weigh(int home, long worth) {
            weights[home] = Math.max(0, Math.min(worth, HEAVIEST));
            total += weights[home];
        }

        /** The callers look for room and for a total first; without them, nothing is parted. */
        int divide(int coins) {
            if (size >= COSTS || total <= 0) {
                return NONE;
            }
            int row = size * HOMES;
            int left = coins;
            for (int i = 0; i < HOMES; i++) {
                int cut = (int) (coins * weights[i] / total);
                shares[row + i] = cut;
                lacks[i] = coins * weights[i] % total;
                left -= cut;
            }
            for (int i = 0; i < left && i < HOMES; i++) {
                int home = mostLacking();
                shares[row + home]++;
                lacks[home] = -1;
            }
            size++;
            return size - 1;
        }

        private int mostLacking() {
            int most = 0;
            for (int i = 1; i < HOMES; i++) {
                if (lacks[i] > lacks[most]) {
                    most = i;
                }
            }
            return most;
        }

        int share(int number, int home) {
            if (number < 0 || number >= size) {
                return 0;
            }
            return shares[number * HOMES + home];
        }
    }

    private static final class Fund {
        private static final int YEARS = 40;

        final int[] spends = new int[YEARS];
        int thousandths;

        boolean hasYear(int y) {
            return y >= 0 && y < YEARS;
        }

        long behindYear(int y, long due) {
            long coins = 0;
            for (int i = 0; i <= y && i < YEARS; i++) {
                coins = behindNext(coins, i, due);
            }
            return coins;
        }

        int leastDue() {
            int least = 0;
            // A due of what the dearest year costs is always enough.
            int enough = MOST_COINS;
            for (int i = 0; i < 32 && least < enough; i++) {
                int middle = (least + enough) / 2;
                if (isEnough(middle)) {
                    enough = middle;
                } else {
                    least = middle + 1;
                }
            }
            return least;
        }

        private boolean isEnough(int due) {
            long coins = 0;
            for (int i = 0; i < YEARS; i++) {
                coins = behindNext(coins, i, due);
                if (coins < 0) {
                    return false;
                }
            }
            return true;
        }

        private long behindNext(long coins, int y, long due) {
            long with = coins + due;
            return with + with * thousandths / 1000 - spends[y];
        }
    }

    /** A tray: it looks at the thing that it holds before it does with it what is asked. */
    private static final class Tray {
        static final int NOTHING = 0, A_RIGHT = 1, BYTES = 2, DEBTS = 3, TRUTHS = 4;
        static final int DONE = 0, NONE_SUCH = 1, NOTHING_THERE = 10, OTHER_SORT = 11, OUTSIDE = 12,
                BELOW_ZERO = 13, DOES_NOT_FIT = 14, BY_ZERO = 15;
        private static final int KINDS = 5, ROW = 9;

        private int sort;
        private int kind;
        private int home;
        private byte[] bytes = new byte[0];
        private final long[] debts = new long[MEMBERS];
        private int truths;
        private int size;
        int outcome;

        void holdNothing() {
            sort = NOTHING;
        }

        void holdRight(Right right) {
            sort = A_RIGHT;
            kind = right.kind;
            home = right.home;
        }

        void holdBytes(Statute text) {
            sort = BYTES;
            bytes = text.bytes;
            size = bytes.length;
        }

        void holdDebts(Member[] members, int count) {
            sort = DEBTS;
            size = Math.min(count, MEMBERS);
            for (int i = 0; i < size; i++) {
                debts[i] = members[i].debt;
            }
        }

        void holdTruths(int bits, int count) {
            sort = TRUTHS;
            truths = bits;
            size = count;
        }

        /** The answer; outcome tells the status. */
        int work(int what, int n) {
            switch (what) {
                case 0: return homeOfRight(Math.floorMod(n, KINDS));
                case 1: return placeOf(BYTES, n);
                case 2: return placeOf(DEBTS, n);
                case 3: return placeOf(TRUTHS, n);
                case 4: return n < 0 ? refuse(BELOW_ZERO) : answer(n);
                case 5: return sumOfCopy(n);
                case 6: return homeOfLet();
                case 7: return n == 0 ? refuse(BY_ZERO) : answer(1000 / n);
                case 8: return refuse(NOTHING_THERE);
                default: return refuse(NONE_SUCH);
            }
        }

        private int refuse(int why) {
            outcome = why;
            return -1;
        }

        private int answer(int n) {
            outcome = DONE;
            return n;
        }

        private int homeOfRight(int above) {
            if (sort == NOTHING) {
                return refuse(NOTHING_THERE);
            }
            return isRightUnder(above) ? answer(home) : refuse(OTHER_SORT);
        }

        private int homeOfLet() {
            if (sort == NOTHING) {
                return answer(0);
            }
            return isRightUnder(LET) ? answer(home) : refuse(DOES_NOT_FIT);
        }

        private boolean isRightUnder(int above) {
            return sort == A_RIGHT && (kind == above || above == RIGHT || above == LET && kind == GUEST);
        }

        private int placeOf(int asked, int n) {
            if (sort == NOTHING) {
                return refuse(NOTHING_THERE);
            }
            if (sort != asked) {
                return refuse(OTHER_SORT);
            }
            if (n < 0 || n >= size) {
                return refuse(OUTSIDE);
            }
            switch (asked) {
                case BYTES: return answer(bytes[n]);
                case DEBTS: return answer((int) debts[n]);
                default: return answer(truths >> n & 1);
            }
        }

        private int sumOfCopy(int n) {
            if (sort == NOTHING) {
                return refuse(NOTHING_THERE);
            }
            if (sort != BYTES) {
                return refuse(OTHER_SORT);
            }
            if (n < 0 || 1 + n > size || n + n > ROW) {
                return refuse(OUTSIDE);
            }
            int sum = 0;
            for (int i = 1; i <= n; i++) {
                sum += bytes[i];
            }
            return answer(sum);
        }
    }
}
