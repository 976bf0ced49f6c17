import java.util.ArrayDeque;
import java.util.ArrayList;
import java.util.HashMap;
import java.util.List;
import java.util.Map;
import java.util.TreeSet;
import java.util.regex.Matcher;
import java.util.regex.Pattern;

/**
 * The document once more, as plainly as it can be told and without regard to cost: what would be is found by doing it
 * to a copy. RunsTest holds the class against it.
 */
final class Model {

    /** One state of everything that undo brings back. */
    static final class State {
        final List<Monk> monks = new ArrayList<>();
        final List<String> needs = new ArrayList<>();
        final List<Integer> words = new ArrayList<>();
        final Map<Integer, Integer> bells = new HashMap<>();
        int paper = 20;
        int grant = 10;
        int time;
        int[] accounts = new int[14];

        State copy() {
            State copy = new State();
            for (Monk monk : monks) {
                copy.monks.add(monk.copy());
            }
            copy.needs.addAll(needs);
            copy.words.addAll(words);
            copy.bells.putAll(bells);
            copy.paper = paper;
            copy.grant = grant;
            copy.time = time;
            copy.accounts = accounts.clone();
            return copy;
        }

        boolean speechAt(int hour) {
            for (int back = 0; back < 24; back++) {
                int bell = bells.getOrDefault(Math.floorMod(hour - back, 24), 0);
                if (bell != 0) {
                    return bell == 2;
                }
            }
            return false;
        }

        int speechHours() {
            int hours = 0;
            for (int hour = 0; hour < 24; hour++) {
                hours += speechAt(hour) ? 1 : 0;
            }
            return hours;
        }

        int fast() {
            int sum = 0;
            for (Monk monk : monks) {
                sum += monk.fast;
            }
            return sum;
        }

        int want(int monk, int need) {
            if (!monks.get(monk).wants.add(need)) {
                return -11;
            }
            return monks.get(monk).wants.size();
        }

        int pages(int monk, int need) {
            int pages = (words.get(need) + 9) / 10;
            return monks.get(monk).rank == 0 ? pages * 2 : pages;
        }

        int tell(int from, int to, int need, int way) {
            Monk teller = monks.get(from);
            Monk hearer = monks.get(to);
            int answer;
            if (way == 0) {
                if (!teller.knows.contains(need)) {
                    return -12;
                }
                if (!hearer.knows.contains(need)) {
                    return -13;
                }
                TreeSet<Integer> both = new TreeSet<>(teller.knows);
                both.retainAll(hearer.knows);
                answer = both.size();
            } else if (way == 1) {
                answer = pages(from, need);
                if (answer > paper) {
                    return -14;
                }
                paper -= answer;
                accounts[3] += answer;
            } else {
                answer = speak(teller, words.get(need));
                if (answer < 0) {
                    return answer;
                }
            }
            accounts[way]++;
            if (way > 0 && teller.knows.contains(need) && hearer.knows.add(need)) {
                accounts[13]++;
            }
            if (hearer.rank >= teller.rank && teller.wants.remove(need)) {
                accounts[12]++;
            }
            return answer;
        }

        private int speak(Monk teller, int spoken) {
            if (speechAt(time % 24)) {
                accounts[4] += spoken;
                return 0;
            }
            int byLeave = Math.min(spoken, teller.leave);
            int rest = spoken - byLeave;
            int days = (rest + 4) / 5 * (teller.rank == 2 ? 2 : 1);
            if (teller.fast + days > 99) {
                return -15;
            }
            teller.leave -= byLeave;
            teller.fast += days;
            accounts[5] += byLeave;
            accounts[6] += rest;
            accounts[7] += rest > 0 ? 1 : 0;
            accounts[8] += days;
            teller.broke |= rest > 0;
            return days;
        }

        int give(int from, int to, int count) {
            Monk giver = monks.get(from);
            Monk taker = monks.get(to);
            if (giver.rank != 2) {
                return -16;
            }
            if (giver.fast > 0) {
                return -17;
            }
            if (taker.fast > 0) {
                return -18;
            }
            if (giver.given + count > grant) {
                return -19;
            }
            if (taker.leave + count > 99) {
                return -20;
            }
            giver.given += count;
            taker.leave += count;
            accounts[10] += count;
            return taker.leave;
        }

        int pass(int hours) {
            if (time + hours > 9999) {
                return -21;
            }
            return go(hours);
        }

        int go(int hours) {
            int days = 0;
            for (int i = 0; i < hours; i++) {
                time++;
                if (time % 24 == 0) {
                    days++;
                    for (Monk monk : monks) {
                        accounts[9] += monk.endDay();
                        accounts[11] += monk.leave;
                        monk.leave = 0;
                    }
                }
            }
            return days;
        }
    }

    static final class Monk {
        String name;
        int rank;
        TreeSet<Integer> knows = new TreeSet<>();
        TreeSet<Integer> wants = new TreeSet<>();
        int leave;
        int fast;
        int given;
        boolean broke;

        Monk copy() {
            Monk copy = new Monk();
            copy.name = name;
            copy.rank = rank;
            copy.knows.addAll(knows);
            copy.wants.addAll(wants);
            copy.leave = leave;
            copy.fast = fast;
            copy.given = given;
            copy.broke = broke;
            return copy;
        }

        /** The days of fast that were kept. */
        int endDay() {
            int kept = !broke && fast > 0 ? 1 : 0;
            fast -= kept;
            given = 0;
            broke = false;
            return kept;
        }
    }

    private static final class TextError extends Exception {
        private static final long serialVersionUID = 1L;
        final int code;
        final int at;

        TextError(int code, int at) {
            super(null, null, false, false);
            this.code = code;
            this.at = at;
        }
    }

    State now;
    int errorAt = -1;
    private final ArrayDeque<State> past = new ArrayDeque<>();
    private final State[] slots = new State[2];

    private List<String> tokens;
    private List<Integer> places;
    private int next;

    Model() {
        try {
            now = read("need a 1;elder b;");
        } catch (TextError e) {
            throw new IllegalStateException(e);
        }
    }

    int undoable() {
        return past.size();
    }

    private void change(State before) {
        past.addLast(before);
        if (past.size() > 8) {
            past.removeFirst();
        }
    }

    private int changed(State before, int answer) {
        if (answer > -11) {
            change(before);
        }
        return answer;
    }

    int want(int monk, int need) {
        return changed(now.copy(), now.want(monk, need));
    }

    int tell(int from, int to, int need, int way) {
        return changed(now.copy(), now.tell(from, to, need, way));
    }

    int give(int from, int to, int words) {
        return changed(now.copy(), now.give(from, to, words));
    }

    int pass(int hours) {
        return changed(now.copy(), now.pass(hours));
    }

    int setBell(int hour, int bell) {
        change(now.copy());
        Integer before = now.bells.put(hour, bell);
        return before == null ? 0 : before;
    }

    int set(int what, int value) {
        change(now.copy());
        int before = what == 2 ? now.paper : now.grant;
        if (what == 2) {
            now.paper = value;
        } else {
            now.grant = value;
        }
        return before;
    }

    /** The changes that can still be undone, -1 if there was none. */
    int undo() {
        if (past.isEmpty()) {
            return -1;
        }
        now = past.removeLast();
        return past.size();
    }

    void save(int slot) {
        slots[slot] = now.copy();
    }

    /** TIME, -1 if nothing is saved there. */
    int restore(int slot) {
        if (slots[slot] == null) {
            return -1;
        }
        change(now);
        now = slots[slot].copy();
        return now.time;
    }

    int load(String text) {
        try {
            State told = read(text);
            change(now);
            now = told;
            errorAt = -1;
            return now.monks.size();
        } catch (TextError e) {
            errorAt = e.at;
            return e.code;
        }
    }

    // ---- reading

    private State read(String text) throws TextError {
        tokens = new ArrayList<>();
        places = new ArrayList<>();
        next = 0;
        Matcher matcher = Pattern.compile("[a-z]+|[0-9]+|[^ ]", Pattern.DOTALL).matcher(text);
        while (matcher.find()) {
            tokens.add(matcher.group());
            places.add(matcher.start());
        }
        tokens.add("");
        places.add(text.length());
        State told = new State();
        if (sees("paper")) {
            next++;
            told.paper = number(0, 99);
            semicolon();
        }
        if (sees("grant")) {
            next++;
            told.grant = number(0, 50);
            semicolon();
        }
        do {
            need(told);
        } while (sees("need"));
        do {
            monk(told);
        } while (sees("novice") || sees("brother") || sees("elder"));
        while (sees("bell")) {
            next++;
            int hour = number(0, 23);
            told.bells.put(hour, 1 + oneOf("silence", "speech"));
            semicolon();
        }
        while (!tokens.get(next).isEmpty()) {
            deed(told);
        }
        return told;
    }

    private boolean sees(String token) {
        return tokens.get(next).equals(token);
    }

    private TextError error(int code) {
        return new TextError(code, places.get(next));
    }

    private int oneOf(String... words) throws TextError {
        for (int i = 0; i < words.length; i++) {
            if (sees(words[i])) {
                next++;
                return i;
            }
        }
        throw error(-2);
    }

    private void semicolon() throws TextError {
        oneOf(";");
    }

    private int number(int least, int most) throws TextError {
        if (!tokens.get(next).matches("[0-9]+")) {
            throw error(-2);
        }
        String digits = tokens.get(next).replaceFirst("^0+(?=.)", "");
        if (digits.length() > 4 || Integer.parseInt(digits) < least || Integer.parseInt(digits) > most) {
            throw error(-3);
        }
        next++;
        return Integer.parseInt(digits);
    }

    private String name() throws TextError {
        if (!tokens.get(next).matches("[a-z]{1,6}")) {
            throw error(-2);
        }
        return tokens.get(next);
    }

    private void need(State told) throws TextError {
        if (sees("need") && told.needs.size() == 8) {
            throw error(-6);
        }
        oneOf("need");
        String name = name();
        if (told.needs.contains(name)) {
            throw error(-5);
        }
        next++;
        told.needs.add(name);
        told.words.add(number(1, 20));
        semicolon();
    }

    private void monk(State told) throws TextError {
        Monk monk = new Monk();
        monk.rank = oneOf("novice", "brother", "elder");
        if (told.monks.size() == 12) {
            next--;
            throw error(-6);
        }
        monk.name = name();
        if (monkNamed(told, monk.name) >= 0) {
            throw error(-5);
        }
        next++;
        while (!sees(";")) {
            int need = told.needs.indexOf(name());
            if (need < 0) {
                throw error(-4);
            }
            if (!monk.knows.add(need)) {
                throw error(-5);
            }
            next++;
        }
        semicolon();
        told.monks.add(monk);
    }

    private static int monkNamed(State told, String name) {
        for (int monk = 0; monk < told.monks.size(); monk++) {
            if (told.monks.get(monk).name.equals(name)) {
                return monk;
            }
        }
        return -1;
    }

    private int monkHere(State told, int first) throws TextError {
        int monk = monkNamed(told, name());
        if (monk < 0) {
            throw error(-4);
        }
        if (monk == first) {
            throw error(-5);
        }
        next++;
        return monk;
    }

    private int needHere(State told) throws TextError {
        int need = told.needs.indexOf(name());
        if (need < 0) {
            throw error(-4);
        }
        next++;
        return need;
    }

    private void deed(State told) throws TextError {
        int deed = oneOf("want", "tell", "give", "wait");
        int from = deed < 3 ? monkHere(told, -1) : 0;
        int to = deed == 1 || deed == 2 ? monkHere(told, from) : 0;
        int need = deed < 2 ? needHere(told) : 0;
        int number = deed == 1 ? oneOf("sign", "slip", "voice") : deed == 2 ? number(1, 50) : deed == 3 ? number(1, 99) : 0;
        semicolon();
        int answer = deed == 0 ? told.want(from, need) : deed == 1 ? told.tell(from, to, need, number)
            : deed == 2 ? told.give(from, to, number) : told.pass(number);
        if (answer < 0) {
            next--;
            throw error(-7);
        }
    }

    // ---- what would be, by doing it

    int count(int what) {
        int sum = 0;
        switch (what) {
            case 0: return now.monks.size();
            case 1: return now.needs.size();
            case 2: return now.paper;
            case 3: return now.grant;
            case 4: return now.time;
            case 5: return now.speechAt(now.time % 24) ? 1 : 0;
            case 6:
                for (int bell : now.bells.values()) {
                    sum += bell == 0 ? 0 : 1;
                }
                return sum;
            case 7: return now.speechHours();
            case 12: return past.size();
            default:
                for (Monk monk : now.monks) {
                    sum += what == 8 ? monk.wants.size() : what == 9 ? monk.leave : what == 10 ? monk.fast : monk.knows.size();
                }
                return sum;
        }
    }

    int monk(int number, int what) {
        Monk monk = now.monks.get(number);
        switch (what) {
            case 0: return monk.rank;
            case 1: return monk.leave;
            case 2: return monk.fast;
            case 3: return monk.given;
            case 4: return monk.broke ? 1 : 0;
            case 5: return monk.knows.size();
            case 6: return monk.wants.size();
            case 7:
                int others = -1;
                for (Monk other : now.monks) {
                    others += other.knows.containsAll(monk.knows) ? 1 : 0;
                }
                return others;
            default: return monk.name.length();
        }
    }

    int need(int need, int what) {
        int monks = 0;
        for (Monk monk : now.monks) {
            monks += (what == 1 ? monk.knows : monk.wants).contains(need) ? 1 : 0;
        }
        int words = now.words.get(need);
        return what == 0 ? words : what < 3 ? monks : what == 3 ? (words > 10 ? 2 : 1) : (words + 4) / 5;
    }

    int why(int from, int to, int need, int way, int depth) {
        State then = now.copy();
        int answer = then.tell(from, to, need, way);
        int words = now.words.get(need);
        int leave = now.monks.get(from).leave;
        State free = now.copy();
        free.monks.get(from).fast = 0;
        int days = free.tell(from, to, need, 2);
        int bell = now.time % 24;
        for (int i = 0; i < 24 && now.bells.getOrDefault(bell, 0) == 0; i++) {
            bell = (bell + 23) % 24;
        }
        int[] told;
        if (answer < 0) {
            int[][] refused = {{2, from, -1}, {3, to, -1}, {4, now.paper, now.pages(from, need)},
                {5, now.monks.get(from).fast, days}};
            told = refused[-12 - answer];
        } else if (way < 2) {
            told = new int[] {0, way == 0 ? 0 : answer, -1};
        } else if (now.speechAt(now.time % 24)) {
            told = new int[] {20, bell, -1};
        } else if (leave >= words) {
            told = new int[] {21, leave, leave - words};
        } else {
            told = leave > 0 ? new int[] {22, leave, days} : new int[] {23, words, days};
        }
        return told[depth];
    }

    int bestWay(int from, int to, int need) {
        int best = -1;
        int least = 1000000;
        for (int way = 0; way < 3; way++) {
            State then = now.copy();
            if (then.tell(from, to, need, way) >= 0) {
                int cost = 10 * (then.fast() - now.fast()) + now.monks.get(from).leave - then.monks.get(from).leave
                    + 3 * (now.paper - then.paper);
                if (cost < least) {
                    least = cost;
                    best = way;
                }
            }
        }
        return best;
    }

    int speechIn() {
        for (int hours = 0; hours < 100; hours++) {
            if (now.speechAt((now.time + hours) % 24)) {
                return hours;
            }
        }
        return -1;
    }

    int fastIn(int hours) {
        State then = now.copy();
        then.go(hours);
        return then.fast();
    }

    int freeIn(int monk) {
        State then = now.copy();
        int hours = 0;
        while (then.monks.get(monk).fast > 0) {
            then.go(1);
            hours++;
        }
        return hours;
    }

    int bestBell() {
        int best = 0;
        int most = -1;
        for (int hour = 0; hour < 24; hour++) {
            State then = now.copy();
            then.bells.put(hour, 2);
            if (then.speechHours() > most) {
                most = then.speechHours();
                best = hour;
            }
        }
        return best;
    }

    int bestHearer() {
        int best = 0;
        int most = -1;
        for (int hearer = 0; hearer < now.monks.size(); hearer++) {
            State then = now.copy();
            for (int monk = 0; monk < now.monks.size(); monk++) {
                for (int need : now.monks.get(monk).wants) {
                    if (monk != hearer) {
                        then.tell(monk, hearer, need, 0);
                    }
                }
            }
            if (then.accounts[12] > most) {
                most = then.accounts[12];
                best = hearer;
            }
        }
        return best;
    }

    int ranked(int place) {
        List<Integer> order = new ArrayList<>();
        for (int monk = 0; monk < now.monks.size(); monk++) {
            order.add(monk);
        }
        order.sort((a, b) -> {
            Monk first = now.monks.get(a);
            Monk second = now.monks.get(b);
            return first.fast != second.fast ? second.fast - first.fast : second.leave - first.leave;
        });
        return place >= 0 && place < order.size() ? order.get(place) : -1;
    }

    String monkText(int monk) {
        StringBuilder text = new StringBuilder(now.monks.get(monk).name).append(':');
        List<String> names = new ArrayList<>();
        for (int need : now.monks.get(monk).knows) {
            names.add(now.needs.get(need));
        }
        text.append(String.join(" ", names)).append('/');
        names.clear();
        for (int need : now.monks.get(monk).wants) {
            names.add(now.needs.get(need));
        }
        return text.append(String.join(" ", names)).toString();
    }

    String dayText() {
        StringBuilder text = new StringBuilder();
        for (int hour = 0; hour < 24; hour++) {
            text.append(now.speechAt(hour) ? 's' : '.');
        }
        return text.append('/').append(now.time).toString();
    }
}
