import java.util.ArrayList;
import java.util.List;
import java.util.regex.Matcher;
import java.util.regex.Pattern;

/**
 * The document once more, written slowly and in another way than the program (offers and
 * friendships are ties of their own between two numbers, the best cost is a search over all
 * orders, a fault is found by asking which beginnings of a text could still go on), so that
 * random runs can be held against it. All calls go through call(name, arguments).
 */
final class PlainModel {
    static final class Person {
        int number;
        int worth;
        int told;
        int service;
        int money;

        Person copy() {
            Person twin = new Person();
            twin.number = number;
            twin.worth = worth;
            twin.told = told;
            twin.service = service;
            twin.money = money;
            return twin;
        }
    }

    /** A tie from the one behind to the one ahead: an offer, or (with price -1) a friendship. */
    record Tie(int behind, int ahead, int price) {
    }

    static final class State {
        List<Person> order = new ArrayList<>();
        List<Tie> offers = new ArrayList<>();
        List<Tie> friends = new ArrayList<>();
        int split = 50;
        int swaps;
        int paid;
        int served;
        int joined;

        State copy() {
            State twin = new State();
            for (Person person : order) {
                twin.order.add(person.copy());
            }
            twin.offers.addAll(offers);
            twin.friends.addAll(friends);
            twin.split = split;
            twin.swaps = swaps;
            twin.paid = paid;
            twin.served = served;
            twin.joined = joined;
            return twin;
        }
    }

    private static final Pattern TEXT = Pattern.compile("( *("
            + "(join|say|offer)( +[0-9]{1,4}){2}"
            + "|push( +[0-9]{1,4}){3}"
            + "|(leave|take|swap|friend|part) +[0-9]{1,4}"
            + "|serve|settle"
            + ") *;)* *");
    private static final List<String> WORDS = List.of("join", "push", "leave", "say", "offer",
            "take", "swap", "friend", "part", "serve", "settle");

    private State now = new State();
    private final List<State> saved = new ArrayList<>();
    private String text = "";

    long call(String name, int... a) {
        switch (name) {
            case "member": return member(placeOf(a[0]), a[1]);
            case "at": return at(a[0]);
            case "pair": return pair(a[0], a[1]);
            case "whole": return whole(a[0]);
            case "reason": return reason(front(a[0]));
            case "settledPlace": return settledPlace(a[0]);
            case "profit": return profit(a[0], a[1]);
            case "bestLie": return bestLie(a[0]);
            case "honestCost": return honestCost();
            case "disorder": return disorder();
            case "type": return type(a[0]);
            case "clearCommands": return clearCommands();
            case "runCommands": return runCommands();
            case "undo": return undo();
            case "digest": return digest();
            default: break;
        }
        State before = now.copy();
        long answer = change(name, a);
        save(before);
        return answer;
    }

    private long change(String name, int... a) {
        switch (name) {
            case "join": return join(a[0], a[1], now.order.size());
            case "joinAt": return join(a[0], a[1], a[2]);
            case "leave": return leave(placeOf(a[0]));
            case "serve": return serve();
            case "say": return say(placeOf(a[0]), a[1]);
            case "setSplit": return setSplit(a[0]);
            case "offer": return offer(placeOf(a[0]), a[1]);
            case "take": return take(placeOf(a[0]));
            case "swap": return swap(front(a[0]));
            case "befriend": return befriend(front(a[0]));
            case "part": return part(front(a[0]));
            case "settle": return settle();
            default: throw new UnsupportedOperationException(name);
        }
    }

    private void save(State before) {
        saved.add(before);
        if (saved.size() > 4) {
            saved.remove(0);
        }
    }

    private static void argument(boolean fits) {
        if (!fits) {
            throw new IllegalArgumentException();
        }
    }

    private static void state(boolean fits) {
        if (!fits) {
            throw new IllegalStateException();
        }
    }

    private int placeOf(int number) {
        for (int i = 0; i < now.order.size(); i++) {
            if (now.order.get(i).number == number) {
                return i;
            }
        }
        throw new IndexOutOfBoundsException();
    }

    private int front(int place) {
        if (place < 0 || (long) place + 1 >= now.order.size()) {
            throw new IndexOutOfBoundsException();
        }
        return place;
    }

    private boolean neighbours(Tie tie) {
        for (int i = 1; i < now.order.size(); i++) {
            if (now.order.get(i).number == tie.behind && now.order.get(i - 1).number == tie.ahead) {
                return true;
            }
        }
        return false;
    }

    private void dropLooseTies() {
        now.offers.removeIf(tie -> !neighbours(tie));
        now.friends.removeIf(tie -> !neighbours(tie));
    }

    private Tie tieAt(List<Tie> ties, int place) {
        if (place < 0 || place + 1 >= now.order.size()) {
            return null;
        }
        for (Tie tie : ties) {
            if (tie.ahead == now.order.get(place).number
                    && tie.behind == now.order.get(place + 1).number) {
                return tie;
            }
        }
        return null;
    }

    private boolean friends(int place) {
        return tieAt(now.friends, place) != null;
    }

    private long join(int worth, int service, int place) {
        argument(worth >= 0 && worth <= 99);
        argument(service >= 1 && service <= 30);
        argument(place >= 0 && place <= now.order.size());
        state(now.order.size() < 10 && !friends(place - 1));
        Person person = new Person();
        person.number = now.joined++;
        person.worth = worth;
        person.told = worth;
        person.service = service;
        now.order.add(place, person);
        dropLooseTies();
        return person.number;
    }

    private long leave(int place) {
        now.order.remove(place);
        dropLooseTies();
        return place;
    }

    private long serve() {
        state(!now.order.isEmpty());
        int number = now.order.remove(0).number;
        now.served++;
        dropLooseTies();
        return number;
    }

    private long say(int place, int worth) {
        argument(worth >= 0 && worth <= 99);
        int before = now.order.get(place).told;
        now.order.get(place).told = worth;
        return before;
    }

    private long setSplit(int split) {
        argument(split >= 0 && split <= 100);
        int before = now.split;
        now.split = split;
        return before;
    }

    private long offer(int place, int price) {
        argument(price >= 0 && price <= 9999);
        state(place > 0);
        Tie before = tieAt(now.offers, place - 1);
        now.offers.remove(before);
        now.offers.add(new Tie(now.order.get(place).number, now.order.get(place - 1).number,
                price));
        return before == null ? -1 : before.price;
    }

    private boolean welcome(int place) {
        Tie offer = tieAt(now.offers, place);
        return offer != null && offer.price >= pair(place, 1) && !held(place);
    }

    private boolean held(int place) {
        return friends(place) || friends(place - 1) || friends(place + 1);
    }

    private long take(int place) {
        state(welcome(place));
        return exchange(place, tieAt(now.offers, place).price);
    }

    private long swap(int place) {
        state(reason(place) == 0);
        return exchange(place, (int) pair(place, 3));
    }

    private long exchange(int place, int price) {
        Person front = now.order.get(place);
        Person back = now.order.get(place + 1);
        now.order.set(place, back);
        now.order.set(place + 1, front);
        back.money -= price;
        front.money += price;
        now.swaps++;
        now.paid += price;
        dropLooseTies();
        return price;
    }

    private long befriend(int place) {
        state(!friends(place));
        now.friends.add(new Tie(now.order.get(place + 1).number, now.order.get(place).number, -1));
        return now.friends.size();
    }

    private long part(int place) {
        state(friends(place));
        now.friends.remove(tieAt(now.friends, place));
        return now.friends.size();
    }

    private long settle() {
        int swaps = 0;
        while (true) {
            int place = -1;
            for (int i = now.order.size() - 2; i >= 0; i--) {
                if (reason(i) == 0 && (place < 0 || pair(i, 2) >= pair(place, 2))) {
                    place = i;
                }
            }
            if (place < 0) {
                return swaps;
            }
            swap(place);
            swaps++;
        }
    }

    private int wait(int place) {
        int wait = 0;
        for (Person person : now.order.subList(0, place)) {
            wait += person.service;
        }
        return wait;
    }

    private long member(int place, int what) {
        argument(what >= 0 && what <= 9);
        Person person = now.order.get(place);
        Tie made = tieAt(now.offers, place - 1);
        Tie got = tieAt(now.offers, place);
        long[] values = {place, person.worth, person.told, person.service, wait(place),
            (long) person.worth * wait(place), person.money, made == null ? -1 : made.price,
            got == null ? -1 : got.price,
            (friends(place - 1) ? 1 : 0) + (friends(place) ? 1 : 0)};
        return values[what];
    }

    private long at(int place) {
        argument(place >= 0);
        return place < now.order.size() ? now.order.get(place).number : -1;
    }

    private long pair(int asked, int what) {
        int place = front(asked);
        argument(what >= 0 && what <= 4);
        Person front = now.order.get(place);
        Person back = now.order.get(place + 1);
        long gain = (long) back.told * front.service;
        long loss = (long) front.told * back.service;
        long fair = gain > loss ? loss + (gain - loss) * now.split / 100 : -1;
        long[] values = {gain, loss, gain - loss, fair, friends(place) ? 1 : 0};
        return values[what];
    }

    private long reason(int place) {
        if (friends(place)) {
            return 1;
        }
        if (friends(place - 1)) {
            return 2;
        }
        if (friends(place + 1)) {
            return 3;
        }
        return pair(place, 2) > 0 ? 0 : 4;
    }

    private long whole(int what) {
        argument(what >= 0 && what <= 13);
        int size = now.order.size();
        long cost = 0;
        long told = 0;
        int willing = 0;
        int welcome = 0;
        for (int i = 0; i < size; i++) {
            cost += (long) now.order.get(i).worth * wait(i);
            told += (long) now.order.get(i).told * wait(i);
            willing += i + 1 < size && reason(i) == 0 ? 1 : 0;
            welcome += i + 1 < size && welcome(i) ? 1 : 0;
        }
        long[] values = {size, now.split, cost, told, what == 4 ? bestCost() : 0, willing,
            now.offers.size(), welcome, now.friends.size(), now.swaps, now.paid, now.served,
            now.joined, text.length()};
        return values[what];
    }

    /** The least cost of those who are served first, over all sets of them. */
    private long bestCost() {
        int size = now.order.size();
        long[] least = new long[1 << size];
        int[] wait = new int[1 << size];
        for (int set = 1; set < 1 << size; set++) {
            least[set] = Long.MAX_VALUE;
            for (int last = 0; last < size; last++) {
                if ((set >> last & 1) == 1) {
                    int others = set - (1 << last);
                    wait[set] = wait[others] + now.order.get(last).service;
                    long cost = least[others] + (long) now.order.get(last).worth * wait[others];
                    least[set] = Math.min(least[set], cost);
                }
            }
        }
        return least[(1 << size) - 1];
    }

    private long settledPlace(int number) {
        placeOf(number);
        State before = now.copy();
        settle();
        long place = placeOf(number);
        now = before;
        return place;
    }

    private long profit(int number, int worth) {
        int place = placeOf(number);
        argument(worth >= 0 && worth <= 99);
        State before = now.copy();
        long had = member(place, 6) - member(place, 5);
        now.order.get(place).told = worth;
        settle();
        long has = member(placeOf(number), 6) - member(placeOf(number), 5);
        now = before;
        return has - had;
    }

    private long bestLie(int number) {
        int best = 99;
        for (int worth = 98; worth >= 0; worth--) {
            best = profit(number, worth) >= profit(number, best) ? worth : best;
        }
        placeOf(number);
        return best;
    }

    private long honestCost() {
        State before = now.copy();
        for (Person person : now.order) {
            person.told = person.worth;
        }
        settle();
        long cost = whole(2);
        now = before;
        return cost;
    }

    private long disorder() {
        int pairs = 0;
        for (Person behind : now.order) {
            for (Person ahead : now.order.subList(0, now.order.indexOf(behind))) {
                pairs += behind.worth * ahead.service > ahead.worth * behind.service ? 1 : 0;
            }
        }
        return pairs;
    }

    private long type(int value) {
        argument(value >= 0 && value <= 127);
        state(text.length() < 150);
        text += (char) value;
        return text.length();
    }

    private long clearCommands() {
        int had = text.length();
        text = "";
        return had;
    }

    private long runCommands() {
        int fault = fault();
        if (fault >= 0) {
            return -10 - fault;
        }
        save(now.copy());
        int done = 0;
        for (String command : text.split(";", -1)) {
            String[] parts = command.trim().split(" +");
            if (parts[0].isEmpty()) {
                continue;
            }
            int[] numbers = new int[parts.length - 1];
            for (int i = 0; i < numbers.length; i++) {
                numbers[i] = Integer.parseInt(parts[i + 1]);
            }
            try {
                change(callOf(parts[0]), numbers);
            } catch (RuntimeException refused) {
                break;
            }
            done++;
        }
        return done;
    }

    private static String callOf(String word) {
        switch (word) {
            case "push": return "joinAt";
            case "friend": return "befriend";
            default: return word;
        }
    }

    /** The fault of the text, or -1. */
    private int fault() {
        for (int end = 1; end <= text.length(); end++) {
            if (!couldGoOn(text.substring(0, end))) {
                int start = wordStart(end - 1);
                return start >= 0 ? start : end - 1;
            }
        }
        if (TEXT.matcher(text).matches()) {
            return -1;
        }
        int start = wordStart(text.length());
        return start >= 0 ? start : text.length();
    }

    private static boolean couldGoOn(String beginning) {
        Matcher matcher = TEXT.matcher(beginning);
        return matcher.matches() || matcher.hitEnd();
    }

    /** Where the unknown word begins that holds, or ends just before, a place; -1 if none does. */
    private int wordStart(int place) {
        int start = place;
        while (start > 0 && isLetter(start - 1)) {
            start--;
        }
        int end = place;
        while (end < text.length() && isLetter(end)) {
            end++;
        }
        boolean atWord = start < end && TEXT.matcher(text.substring(0, start)).matches();
        return atWord && !WORDS.contains(text.substring(start, end)) ? start : -1;
    }

    private boolean isLetter(int place) {
        return text.charAt(place) >= 'a' && text.charAt(place) <= 'z';
    }

    private long undo() {
        state(!saved.isEmpty());
        now = saved.remove(saved.size() - 1);
        return saved.size();
    }

    private long digest() {
        long hash = 43842;
        hash = 31 * hash + saved.size();
        for (int what = 0; what < 14; what++) {
            hash = 31 * hash + whole(what);
        }
        for (int i = 0; i < now.order.size(); i++) {
            hash = 31 * hash + at(i);
            for (int what = 0; what < 10; what++) {
                hash = 31 * hash + member(i, what);
            }
        }
        for (int i = 0; i + 1 < now.order.size(); i++) {
            for (int what = 0; what < 5; what++) {
                hash = 31 * hash + pair(i, what);
            }
            hash = 31 * hash + reason(i);
        }
        return 31 * hash + disorder();
    }
}
