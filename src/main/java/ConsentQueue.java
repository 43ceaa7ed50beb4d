/**
 * A queue whose members swap places by consent. ../shared/DOC.md says, as numbered promises, what
 * each call does; the order of the public methods here is the order there.
 */
public final class ConsentQueue {
    public static final int NONE = -1;

    private static final int MOST_MEMBERS = 10;
    private static final int MOST_WORTH = 99;
    private static final int MOST_SERVICE = 30;
    private static final int MOST_SPLIT = 100;
    private static final int MOST_PRICE = 9999;
    private static final int MOST_BYTES = 150;
    private static final int MOST_BYTE_VALUE = 127;
    private static final int MOST_SAVED = 4;
    private static final int FIRST_SPLIT = 50;
    /** Far above the 45 swaps that ten members can make: no two of them swap twice. */
    private static final int MOST_SETTLING_SWAPS = 1000;

    private static final int MEMBER_VALUES = 10;
    private static final int PAIR_VALUES = 5;
    private static final int WHOLE_VALUES = 14;
    private static final int TEXT_LENGTH_VALUE = 13;
    private static final int FAULT_BASE = -10;
    private static final long DIGEST_START = 43842;

    // What a call would throw: a run of a command text has to know it without throwing.
    private static final int FINE = 0;
    private static final int BAD_INDEX = 1;
    private static final int BAD_ARGUMENT = 2;
    private static final int BAD_STATE = 3;

    private final Line line = new Line();
    /** Kept for all what-if questions, so that no question makes new objects. */
    private final Line trial = new Line();
    private final History history = new History();
    private final CommandText text = new CommandText();

    public ConsentQueue() {
    }

    // ---- members

    public int join(int worth, int service) throws IllegalArgumentException, IllegalStateException {
        return perform(Command.JOIN, worth, service, 0);
    }

    public int joinAt(int worth, int service, int place)
            throws IllegalArgumentException, IllegalStateException {
        return perform(Command.PUSH, worth, service, place);
    }

    public int leave(int member) throws IndexOutOfBoundsException {
        return perform(Command.LEAVE, member, 0, 0);
    }

    public int serve() throws IllegalStateException {
        return perform(Command.SERVE, 0, 0, 0);
    }

    public int say(int member, int worth)
            throws IndexOutOfBoundsException, IllegalArgumentException {
        return perform(Command.SAY, member, worth, 0);
    }

    public int setSplit(int split) throws IllegalArgumentException {
        refuse(isWithin(split, 0, MOST_SPLIT) ? FINE : BAD_ARGUMENT);
        history.push(line);
        int previous = line.split;
        line.split = split;
        return previous;
    }

    // ---- swaps, offers, friends

    public int offer(int member, int price)
            throws IndexOutOfBoundsException, IllegalArgumentException, IllegalStateException {
        return perform(Command.OFFER, member, price, 0);
    }

    public int take(int member) throws IndexOutOfBoundsException, IllegalStateException {
        return perform(Command.TAKE, member, 0, 0);
    }

    public int swap(int place) throws IndexOutOfBoundsException, IllegalStateException {
        return perform(Command.SWAP, place, 0, 0);
    }

    public int befriend(int place) throws IndexOutOfBoundsException, IllegalStateException {
        return perform(Command.FRIEND, place, 0, 0);
    }

    public int part(int place) throws IndexOutOfBoundsException, IllegalStateException {
        return perform(Command.PART, place, 0, 0);
    }

    public int settle() {
        return perform(Command.SETTLE, 0, 0, 0);
    }

    // ---- values

    public int member(int member, int what)
            throws IndexOutOfBoundsException, IllegalArgumentException {
        int place = line.placeOf(member);
        refuse(memberFault(place, isWithin(what, 0, MEMBER_VALUES - 1)));
        return line.memberValue(place, what);
    }

    public int at(int place) throws IllegalArgumentException {
        refuse(place >= 0 ? FINE : BAD_ARGUMENT);
        return line.memberAt(place).number;
    }

    public int pair(int place, int what)
            throws IndexOutOfBoundsException, IllegalArgumentException {
        refuse(pairFault(place, isWithin(what, 0, PAIR_VALUES - 1), BAD_ARGUMENT));
        return line.pairValue(place, what);
    }

    public int whole(int what) throws IllegalArgumentException {
        refuse(isWithin(what, 0, WHOLE_VALUES - 1) ? FINE : BAD_ARGUMENT);
        return wholeValue(what);
    }

    // ---- what if, which changes nothing

    public int reason(int place) throws IndexOutOfBoundsException {
        refuse(pairFault(place, true, FINE));
        return line.hindrance(place);
    }

    public int settledPlace(int member) throws IndexOutOfBoundsException {
        refuse(memberFault(line.placeOf(member), true));
        trial.copyFrom(line);
        trial.settleDown();
        return trial.placeOf(member);
    }

    public int profit(int member, int worth)
            throws IndexOutOfBoundsException, IllegalArgumentException {
        int place = line.placeOf(member);
        refuse(memberFault(place, isWithin(worth, 0, MOST_WORTH)));
        return profitAt(place, worth);
    }

    public int bestLie(int member) throws IndexOutOfBoundsException {
        int place = line.placeOf(member);
        refuse(memberFault(place, true));
        int best = 0;
        int most = profitAt(place, 0);
        for (int worth = 1; worth <= MOST_WORTH; worth++) {
            int gained = profitAt(place, worth);
            if (gained > most) {
                most = gained;
                best = worth;
            }
        }
        return best;
    }

    public int honestCost() {
        trial.copyFrom(line);
        trial.tellTruth();
        trial.settleDown();
        return trial.cost();
    }

    public int disorder() {
        return line.wrongPairs();
    }

    // ---- command text, undo and checksum

    public int type(int value) throws IllegalArgumentException, IllegalStateException {
        refuse(isWithin(value, 0, MOST_BYTE_VALUE) ? FINE : BAD_ARGUMENT);
        refuse(text.length < MOST_BYTES ? FINE : BAD_STATE);
        text.append(value);
        return text.length;
    }

    public int clearCommands() {
        int had = text.length;
        text.length = 0;
        return had;
    }

    public int runCommands() {
        int fault = text.findFault();
        if (fault != NONE) {
            return FAULT_BASE - fault;
        }
        history.push(line);
        int done = 0;
        text.startReading();
        for (int i = 0; i < MOST_BYTES && text.hasCommand(); i++) {
            text.readCommand();
            if (!carryOutRead(text.command)) {
                break;
            }
            done++;
        }
        return done;
    }

    public int undo() throws IllegalStateException {
        refuse(history.size > 0 ? FINE : BAD_STATE);
        history.popInto(line);
        return history.size;
    }

    public long digest() {
        long hash = 31 * DIGEST_START + history.size;
        for (int what = 0; what < WHOLE_VALUES; what++) {
            hash = 31 * hash + wholeValue(what);
        }
        hash = digestMembers(hash);
        hash = digestPairs(hash);
        return 31 * hash + line.wrongPairs();
    }

    private long digestMembers(long start) {
        long hash = start;
        for (int place = 0; place < line.count; place++) {
            hash = 31 * hash + line.memberAt(place).number;
            for (int what = 0; what < MEMBER_VALUES; what++) {
                hash = 31 * hash + line.memberValue(place, what);
            }
        }
        return hash;
    }

    private long digestPairs(long start) {
        long hash = start;
        for (int place = 0; place < line.count - 1; place++) {
            for (int what = 0; what < PAIR_VALUES; what++) {
                hash = 31 * hash + line.pairValue(place, what);
            }
            hash = 31 * hash + line.hindrance(place);
        }
        return hash;
    }

    private int wholeValue(int what) {
        return what == TEXT_LENGTH_VALUE ? text.length : line.wholeValue(what);
    }

    private int profitAt(int place, int worth) {
        Member now = line.memberAt(place);
        trial.copyFrom(line);
        trial.memberAt(place).told = worth;
        trial.settleDown();
        int later = trial.placeOf(now.number);
        int saved = line.costAt(place) - trial.costAt(later);
        return saved + trial.memberAt(later).money - now.money;
    }

    // ---- commands: the undoable calls and the words of a text do the same

    private int perform(Command command, int first, int second, int third) {
        refuse(faultOf(command, first, second, third));
        history.push(line);
        return carryOut(command, first, second, third);
    }

    private boolean carryOutRead(Command command) {
        if (command == null) {
            return false;
        }
        int first = text.number(0);
        int second = text.number(1);
        int third = text.number(2);
        if (faultOf(command, first, second, third) != FINE) {
            return false;
        }
        carryOut(command, first, second, third);
        return true;
    }

    private int faultOf(Command command, int first, int second, int third) {
        switch (command) {
            case JOIN:
                return joinFault(first, second, line.count);
            case PUSH:
                return joinFault(first, second, third);
            case LEAVE:
                return memberFault(line.placeOf(first), true);
            case SAY:
                return memberFault(line.placeOf(first), isWithin(second, 0, MOST_WORTH));
            case OFFER:
                return offerFault(line.placeOf(first), second);
            case TAKE:
                return takeFault(line.placeOf(first));
            case SWAP:
                return pairFault(first, line.wouldSwap(first), BAD_STATE);
            case FRIEND:
                return pairFault(first, !line.areFriends(first), BAD_STATE);
            case PART:
                return pairFault(first, line.areFriends(first), BAD_STATE);
            case SERVE:
                return line.count > 0 ? FINE : BAD_STATE;
            default:
                return FINE;
        }
    }

    private int carryOut(Command command, int first, int second, int third) {
        switch (command) {
            case JOIN:
                return line.insert(first, second, line.count);
            case PUSH:
                return line.insert(first, second, third);
            case LEAVE:
                return line.removeMember(first);
            case SAY:
                return line.tell(line.placeOf(first), second);
            case OFFER:
                return line.makeOffer(line.placeOf(first), second);
            case TAKE:
                return line.swapAsOffered(line.placeOf(first));
            case SWAP:
                return line.swapFairly(first);
            case FRIEND:
                return line.setFriends(first, true);
            case PART:
                return line.setFriends(first, false);
            case SERVE:
                return line.serveFirst();
            default:
                return line.settleDown();
        }
    }

    private int joinFault(int worth, int service, int place) {
        if (!isWithin(worth, 0, MOST_WORTH) || !isWithin(service, 1, MOST_SERVICE)
                || !isWithin(place, 0, line.count)) {
            return BAD_ARGUMENT;
        }
        boolean partsFriends = line.memberAt(place).friendAhead;
        return line.count >= MOST_MEMBERS || partsFriends ? BAD_STATE : FINE;
    }

    private int offerFault(int place, int price) {
        int fault = memberFault(place, isWithin(price, 0, MOST_PRICE));
        return fault == FINE && place == 0 ? BAD_STATE : fault;
    }

    private int takeFault(int place) {
        int fault = memberFault(place, true);
        return fault == FINE && !line.wouldTake(place) ? BAD_STATE : fault;
    }

    private int memberFault(int place, boolean argumentsFit) {
        if (place == NONE) {
            return BAD_INDEX;
        }
        return argumentsFit ? FINE : BAD_ARGUMENT;
    }

    private int pairFault(int place, boolean fits, int faultIfNot) {
        if (!isWithin(place, 0, line.count - 2)) {
            return BAD_INDEX;
        }
        return fits ? FINE : faultIfNot;
    }

    private static boolean isWithin(int value, int least, int most) {
        return value >= least && value <= most;
    }

    private static void refuse(int fault) {
        if (fault == BAD_INDEX) {
            throw new IndexOutOfBoundsException("there is no such member or place");
        }
        if (fault == BAD_ARGUMENT) {
            throw new IllegalArgumentException("an argument is out of range");
        }
        if (fault == BAD_STATE) {
            throw new IllegalStateException("the queue does not allow this now");
        }
    }

    /** What can be told of one member by itself; its ties are those to the one ahead of it. */
    private static final class Member {
        private int number = NONE;
        private int worth;
        private int told;
        private int service;
        private int money;
        private int offer = NONE;
        private boolean friendAhead;

        private void copyFrom(Member other) {
            number = other.number;
            worth = other.worth;
            told = other.told;
            service = other.service;
            money = other.money;
            offer = other.offer;
            friendAhead = other.friendAhead;
        }

        private void begin(int newNumber, int newWorth, int newService) {
            number = newNumber;
            worth = newWorth;
            told = newWorth;
            service = newService;
            money = 0;
            loseOneAhead();
        }

        /** Offers and friendships end as soon as another one (or nobody) is ahead. */
        private void loseOneAhead() {
            offer = NONE;
            friendAhead = false;
        }
    }

    /** All that undo() brings back: the members in their places, the split and the counts. */
    private static final class Line {
        /** Always the same ten members, of whom the first count are in use. */
        private final Member[] members = new Member[MOST_MEMBERS];
        /** Stands at every place that has no member, so that no one asks for null. */
        private final Member nobody = new Member();
        private int count;
        private int split = FIRST_SPLIT;
        private int swaps;
        private int paid;
        private int served;
        private int joined;

        private Line() {
            for (int i = 0; i < members.length; i++) {
                members[i] = new Member();
            }
        }

        private void copyFrom(Line other) {
            count = other.count;
            split = other.split;
            swaps = other.swaps;
            paid = other.paid;
            served = other.served;
            joined = other.joined;
            for (int place = 0; place < count; place++) {
                memberAt(place).copyFrom(other.memberAt(place));
            }
        }

        private Member memberAt(int place) {
            if (place < 0 || place >= count || place >= members.length) {
                return nobody;
            }
            Member found = members[place];
            return found == null ? nobody : found;
        }

        private int placeOf(int number) {
            for (int place = 0; place < count; place++) {
                if (memberAt(place).number == number) {
                    return place;
                }
            }
            return NONE;
        }

        // -- changes

        private int insert(int worth, int service, int place) {
            if (count >= members.length || place < 0 || place > count) {
                return NONE;
            }
            Member fresh = members[count];
            if (fresh == null) {
                return NONE;
            }
            for (int i = count; i > place; i--) {
                members[i] = members[i - 1];
            }
            members[place] = fresh;
            count++;
            fresh.begin(joined, worth, service);
            memberAt(place + 1).loseOneAhead();
            joined++;
            return fresh.number;
        }

        private int removeMember(int number) {
            int place = placeOf(number);
            removeAt(place);
            return place;
        }

        private int serveFirst() {
            int number = memberAt(0).number;
            removeAt(0);
            served++;
            return number;
        }

        private void removeAt(int place) {
            if (place < 0 || place >= count || count > members.length) {
                return;
            }
            Member gone = members[place];
            for (int i = place; i < count - 1; i++) {
                members[i] = members[i + 1];
            }
            members[count - 1] = gone;
            count--;
            memberAt(place).loseOneAhead();
        }

        private int tell(int place, int worth) {
            Member teller = memberAt(place);
            int before = teller.told;
            teller.told = worth;
            return before;
        }

        private void tellTruth() {
            for (int place = 0; place < count; place++) {
                memberAt(place).told = memberAt(place).worth;
            }
        }

        private int makeOffer(int place, int price) {
            Member offerer = memberAt(place);
            int before = offerer.offer;
            offerer.offer = price;
            return before;
        }

        private int setFriends(int place, boolean friends) {
            memberAt(place + 1).friendAhead = friends;
            return friendPairs();
        }

        private int swapAsOffered(int place) {
            return swapAt(place, memberAt(place + 1).offer);
        }

        private int swapFairly(int place) {
            return swapAt(place, fairPrice(place));
        }

        private int swapAt(int place, int price) {
            if (place < 0 || place >= count - 1 || count > members.length) {
                return NONE;
            }
            Member front = memberAt(place);
            Member back = memberAt(place + 1);
            members[place] = back;
            members[place + 1] = front;
            back.money -= price;
            front.money += price;
            back.loseOneAhead();
            front.loseOneAhead();
            memberAt(place + 2).loseOneAhead();
            swaps++;
            paid += price;
            return price;
        }

        private int settleDown() {
            int done = 0;
            while (done < MOST_SETTLING_SWAPS) {
                int place = keenestPair();
                if (place == NONE) {
                    break;
                }
                swapFairly(place);
                done++;
            }
            return done;
        }

        private int keenestPair() {
            int keenest = NONE;
            int most = 0;
            for (int place = 0; place < count - 1; place++) {
                int surplus = surplus(place);
                if (surplus > most && !isHeldByFriends(place)) {
                    most = surplus;
                    keenest = place;
                }
            }
            return keenest;
        }

        // -- two neighbours, told by the place of the front one

        private int gain(int place) {
            return memberAt(place + 1).told * memberAt(place).service;
        }

        private int loss(int place) {
            return memberAt(place).told * memberAt(place + 1).service;
        }

        private int surplus(int place) {
            Member front = memberAt(place);
            Member back = memberAt(place + 1);
            return back.told * front.service - front.told * back.service;
        }

        private int fairPrice(int place) {
            Member front = memberAt(place);
            Member back = memberAt(place + 1);
            int loss = front.told * back.service;
            int surplus = back.told * front.service - loss;
            return surplus > 0 ? loss + surplus * split / 100 : NONE;
        }

        private boolean areFriends(int place) {
            return memberAt(place + 1).friendAhead;
        }

        private boolean isHeldByFriends(int place) {
            return memberAt(place).friendAhead || memberAt(place + 1).friendAhead
                    || memberAt(place + 2).friendAhead;
        }

        private boolean wouldSwap(int place) {
            return hindrance(place) == 0;
        }

        private boolean wouldTake(int place) {
            int price = memberAt(place + 1).offer;
            return price != NONE && price >= loss(place) && !isHeldByFriends(place);
        }

        private int hindrance(int place) {
            if (areFriends(place)) {
                return 1;
            }
            if (areFriends(place - 1)) {
                return 2;
            }
            if (areFriends(place + 1)) {
                return 3;
            }
            return surplus(place) > 0 ? 0 : 4;
        }

        private int pairValue(int place, int what) {
            switch (what) {
                case 0:
                    return gain(place);
                case 1:
                    return loss(place);
                case 2:
                    return surplus(place);
                case 3:
                    return fairPrice(place);
                default:
                    return areFriends(place) ? 1 : 0;
            }
        }

        // -- one member, told by its place

        private int waitAt(int place) {
            int wait = 0;
            for (int i = 0; i < place && i < count; i++) {
                wait += memberAt(i).service;
            }
            return wait;
        }

        private int costAt(int place) {
            return memberAt(place).worth * waitAt(place);
        }

        private int friendsAt(int place) {
            return (areFriends(place - 1) ? 1 : 0) + (areFriends(place) ? 1 : 0);
        }

        private int memberValue(int place, int what) {
            Member asked = memberAt(place);
            switch (what) {
                case 0:
                    return place;
                case 1:
                    return asked.worth;
                case 2:
                    return asked.told;
                case 3:
                    return asked.service;
                case 4:
                    return waitAt(place);
                case 5:
                    return costAt(place);
                case 6:
                    return asked.money;
                case 7:
                    return asked.offer;
                case 8:
                    return memberAt(place + 1).offer;
                default:
                    return friendsAt(place);
            }
        }

        // -- the whole

        private int cost() {
            int cost = 0;
            for (int place = 0; place < count; place++) {
                cost += costAt(place);
            }
            return cost;
        }

        private int toldCost() {
            int cost = 0;
            for (int place = 0; place < count; place++) {
                cost += memberAt(place).told * waitAt(place);
            }
            return cost;
        }

        /**
         * The cost is a sum over pairs: of two members, the one behind waits for the one ahead.
         * Ordered by worth per minute of service, every pair stands in its cheaper order at once,
         * so the sum of the pairs' cheaper orders is reached and is the least.
         */
        private int bestCost() {
            int cost = 0;
            for (int place = 0; place < count; place++) {
                for (int ahead = 0; ahead < place; ahead++) {
                    cost += Math.min(waitingCost(ahead, place), waitingCost(place, ahead));
                }
            }
            return cost;
        }

        private int wrongPairs() {
            int wrong = 0;
            for (int place = 0; place < count; place++) {
                for (int ahead = 0; ahead < place; ahead++) {
                    if (waitingCost(ahead, place) > waitingCost(place, ahead)) {
                        wrong++;
                    }
                }
            }
            return wrong;
        }

        /** What it costs the member at waiting that the one at ahead is served first. */
        private int waitingCost(int ahead, int waiting) {
            return memberAt(waiting).worth * memberAt(ahead).service;
        }

        private int willingPairs() {
            int willing = 0;
            for (int place = 0; place < count - 1; place++) {
                willing += hindrance(place) == 0 ? 1 : 0;
            }
            return willing;
        }

        private int offers() {
            int offers = 0;
            for (int place = 0; place < count; place++) {
                offers += memberAt(place).offer != NONE ? 1 : 0;
            }
            return offers;
        }

        private int welcomeOffers() {
            int welcome = 0;
            for (int place = 0; place < count - 1; place++) {
                welcome += wouldTake(place) ? 1 : 0;
            }
            return welcome;
        }

        private int friendPairs() {
            int pairs = 0;
            for (int place = 0; place < count - 1; place++) {
                pairs += areFriends(place) ? 1 : 0;
            }
            return pairs;
        }

        private int wholeValue(int what) {
            switch (what) {
                case 0:
                    return count;
                case 1:
                    return split;
                case 2:
                    return cost();
                case 3:
                    return toldCost();
                case 4:
                    return bestCost();
                case 5:
                    return willingPairs();
                case 6:
                    return offers();
                case 7:
                    return welcomeOffers();
                case 8:
                    return friendPairs();
                case 9:
                    return swaps;
                case 10:
                    return paid;
                case 11:
                    return served;
                default:
                    return joined;
            }
        }
    }

    /** The undo stack: its lines are made once and used again in turn. */
    private static final class History {
        private final Line[] saved = new Line[MOST_SAVED];
        private int size;

        private History() {
            for (int i = 0; i < saved.length; i++) {
                saved[i] = new Line();
            }
        }

        private void push(Line line) {
            if (size >= saved.length) {
                dropOldest();
            }
            if (size < 0 || size >= saved.length) {
                return;
            }
            Line top = saved[size];
            if (top != null) {
                top.copyFrom(line);
                size++;
            }
        }

        private void dropOldest() {
            Line oldest = saved[0];
            for (int i = 1; i < saved.length; i++) {
                saved[i - 1] = saved[i];
            }
            saved[saved.length - 1] = oldest;
            size = saved.length - 1;
        }

        private void popInto(Line line) {
            if (size <= 0 || size > saved.length) {
                return;
            }
            size--;
            Line top = saved[size];
            if (top != null) {
                line.copyFrom(top);
            }
        }
    }

    /** The words of a command text, each with how many numbers follow it. */
    private enum Command {
        JOIN("join", 2),
        PUSH("push", 3),
        LEAVE("leave", 1),
        SAY("say", 2),
        OFFER("offer", 2),
        TAKE("take", 1),
        SWAP("swap", 1),
        FRIEND("friend", 1),
        PART("part", 1),
        SERVE("serve", 0),
        SETTLE("settle", 0);

        private static final Command[] ALL = values();

        private final String word;
        private final int numbers;

        Command(String word, int numbers) {
            this.word = word;
            this.numbers = numbers;
        }
    }

    /** The command text, and a reader that goes through it one command at a time. */
    private static final class CommandText {
        private static final int MOST_NUMBERS = 3;
        private static final int MOST_DIGITS = 4;
        /** Answered behind the end of the text; no byte has this value. */
        private static final int END = -1;

        private final byte[] bytes = new byte[MOST_BYTES];
        private int length;
        private int position;
        private int fault = NONE;
        private Command command;
        private final int[] numbers = new int[MOST_NUMBERS];

        private void append(int value) {
            if (length >= 0 && length < bytes.length) {
                bytes[length] = (byte) value;
                length++;
            }
        }

        private int byteAt(int index) {
            return index >= 0 && index < length && index < bytes.length ? bytes[index] : END;
        }

        private int number(int index) {
            return index >= 0 && index < numbers.length ? numbers[index] : 0;
        }

        private int findFault() {
            startReading();
            for (int i = 0; i < MOST_BYTES && hasCommand(); i++) {
                readCommand();
            }
            return fault;
        }

        private void startReading() {
            position = 0;
            fault = NONE;
            command = null;
        }

        private boolean hasCommand() {
            if (fault != NONE) {
                return false;
            }
            skipSpaces();
            return position < length;
        }

        private void readCommand() {
            int start = position;
            skipLetters();
            Command spelled = commandSpelled(start, position);
            command = spelled;
            if (spelled == null) {
                fault = start;
                return;
            }
            for (int i = 0; i < spelled.numbers && fault == NONE; i++) {
                readNumber(i);
            }
            if (fault == NONE) {
                readSemicolon();
            }
        }

        private void readNumber(int index) {
            int start = position;
            skipSpaces();
            if (position == start || !isDigit(byteAt(position))) {
                fault = position;
                return;
            }
            int value = readDigits();
            if (index >= 0 && index < numbers.length) {
                numbers[index] = value;
            }
        }

        private int readDigits() {
            int value = 0;
            for (int i = 0; i < MOST_DIGITS && isDigit(byteAt(position)); i++) {
                value = 10 * value + byteAt(position) - '0';
                position++;
            }
            return value;
        }

        private void readSemicolon() {
            skipSpaces();
            if (byteAt(position) == ';') {
                position++;
            } else {
                fault = position;
            }
        }

        private void skipSpaces() {
            while (position < length && byteAt(position) == ' ') {
                position++;
            }
        }

        private void skipLetters() {
            while (position < length && isLetter(byteAt(position))) {
                position++;
            }
        }

        private Command commandSpelled(int start, int end) {
            for (Command candidate : Command.ALL) {
                if (candidate != null && isSpelled(candidate.word, start, end)) {
                    return candidate;
                }
            }
            return null;
        }

        private boolean isSpelled(String word, int start, int end) {
            if (word == null || end - start != word.length()) {
                return false;
            }
            for (int i = 0; i < word.length(); i++) {
                if (word.charAt(i) != byteAt(start + i)) {
                    return false;
                }
            }
            return true;
        }

        private static boolean isLetter(int value) {
            return value >= 'a' && value <= 'z';
        }

        private static boolean isDigit(int value) {
            return value >= '0' && value <= '9';
        }
    }
}
